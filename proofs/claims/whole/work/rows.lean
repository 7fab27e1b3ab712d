section
-- ===== PART A: goes FIRST, ahead of the names: the tables' words, and 'selects' of the private methods out of them =====
/-- a private method of a class that the tables say can be made, by its rows of tables_1 -/
def lw_okq (q : MethodName × Nat) : Prop := (q.1.cls ≠ "java/lang/invoke/MethodHandle" ∧ q.1.cls ≠ "java/lang/invoke/VarHandle") ∧ Cond.instantiable q.1.cls q.2 ∈ tables_1 ∧ Cond.privateMethod q.1 ∈ tables_1 ∧ Cond.instanceMethod q.1 ∈ tables_1
theorem lw_p0 : lw_okq (⟨"java/lang/Throwable", "fillInStackTrace", "(I)Ljava/lang/Throwable;"⟩, 6) := ⟨⟨by decide +kernel, by decide +kernel⟩, List.mem_of_getElem? (i := 122) (by decide +kernel), List.mem_of_getElem? (i := 120) (by decide +kernel), List.mem_of_getElem? (i := 121) (by decide +kernel)⟩
theorem lw_p1 : lw_okq (⟨"BoxPacker", "refuseWhenFull", "()V"⟩, 5) := ⟨⟨by decide +kernel, by decide +kernel⟩, List.mem_of_getElem? (i := 17) (by decide +kernel), List.mem_of_getElem? (i := 158) (by decide +kernel), List.mem_of_getElem? (i := 159) (by decide +kernel)⟩
theorem lw_p2 : lw_okq (⟨"BoxPacker", "append", "(LBoxPacker$Item;)I"⟩, 5) := ⟨⟨by decide +kernel, by decide +kernel⟩, List.mem_of_getElem? (i := 17) (by decide +kernel), List.mem_of_getElem? (i := 217) (by decide +kernel), List.mem_of_getElem? (i := 218) (by decide +kernel)⟩
theorem lw_p3 : lw_okq (⟨"BoxPacker", "boxNumbered", "(I)LBoxPacker$Box;"⟩, 5) := ⟨⟨by decide +kernel, by decide +kernel⟩, List.mem_of_getElem? (i := 17) (by decide +kernel), List.mem_of_getElem? (i := 284) (by decide +kernel), List.mem_of_getElem? (i := 285) (by decide +kernel)⟩
theorem lw_p4 : lw_okq (⟨"BoxPacker$Box", "fit", "(III)V"⟩, 12) := ⟨⟨by decide +kernel, by decide +kernel⟩, List.mem_of_getElem? (i := 315) (by decide +kernel), List.mem_of_getElem? (i := 381) (by decide +kernel), List.mem_of_getElem? (i := 382) (by decide +kernel)⟩
theorem lw_p5 : lw_okq (⟨"BoxPacker$Box", "measureBelow", "(I)V"⟩, 12) := ⟨⟨by decide +kernel, by decide +kernel⟩, List.mem_of_getElem? (i := 315) (by decide +kernel), List.mem_of_getElem? (i := 385) (by decide +kernel), List.mem_of_getElem? (i := 386) (by decide +kernel)⟩
theorem lw_p6 : lw_okq (⟨"BoxPacker$Box", "measureAlong", "()V"⟩, 12) := ⟨⟨by decide +kernel, by decide +kernel⟩, List.mem_of_getElem? (i := 315) (by decide +kernel), List.mem_of_getElem? (i := 415) (by decide +kernel), List.mem_of_getElem? (i := 416) (by decide +kernel)⟩
theorem lw_p7 : lw_okq (⟨"BoxPacker$Box", "gives", "(Z)[I"⟩, 12) := ⟨⟨by decide +kernel, by decide +kernel⟩, List.mem_of_getElem? (i := 315) (by decide +kernel), List.mem_of_getElem? (i := 419) (by decide +kernel), List.mem_of_getElem? (i := 420) (by decide +kernel)⟩
theorem lw_p8 : lw_okq (⟨"BoxPacker$Space", "giveOrder", "(Z)I"⟩, 5) := ⟨⟨by decide +kernel, by decide +kernel⟩, List.mem_of_getElem? (i := 246) (by decide +kernel), List.mem_of_getElem? (i := 423) (by decide +kernel), List.mem_of_getElem? (i := 424) (by decide +kernel)⟩
theorem lw_p9 : lw_okq (⟨"BoxPacker$Space", "give", "(Z)I"⟩, 5) := ⟨⟨by decide +kernel, by decide +kernel⟩, List.mem_of_getElem? (i := 246) (by decide +kernel), List.mem_of_getElem? (i := 427) (by decide +kernel), List.mem_of_getElem? (i := 428) (by decide +kernel)⟩
theorem lw_p10 : lw_okq (⟨"BoxPacker$Box", "fillUp", "(II)V"⟩, 12) := ⟨⟨by decide +kernel, by decide +kernel⟩, List.mem_of_getElem? (i := 315) (by decide +kernel), List.mem_of_getElem? (i := 431) (by decide +kernel), List.mem_of_getElem? (i := 432) (by decide +kernel)⟩
theorem lw_p11 : lw_okq (⟨"BoxPacker$Box", "findTotal", "([I)V"⟩, 12) := ⟨⟨by decide +kernel, by decide +kernel⟩, List.mem_of_getElem? (i := 315) (by decide +kernel), List.mem_of_getElem? (i := 435) (by decide +kernel), List.mem_of_getElem? (i := 436) (by decide +kernel)⟩
theorem lw_p12 : lw_okq (⟨"BoxPacker$Box", "addShares", "()V"⟩, 12) := ⟨⟨by decide +kernel, by decide +kernel⟩, List.mem_of_getElem? (i := 315) (by decide +kernel), List.mem_of_getElem? (i := 439) (by decide +kernel), List.mem_of_getElem? (i := 440) (by decide +kernel)⟩
theorem lw_p13 : lw_okq (⟨"BoxPacker$Box", "badness", "()I"⟩, 12) := ⟨⟨by decide +kernel, by decide +kernel⟩, List.mem_of_getElem? (i := 315) (by decide +kernel), List.mem_of_getElem? (i := 454) (by decide +kernel), List.mem_of_getElem? (i := 455) (by decide +kernel)⟩
theorem lw_p14 : lw_okq (⟨"BoxPacker$Marks", "clear", "()V"⟩, 2) := ⟨⟨by decide +kernel, by decide +kernel⟩, List.mem_of_getElem? (i := 29) (by decide +kernel), List.mem_of_getElem? (i := 485) (by decide +kernel), List.mem_of_getElem? (i := 486) (by decide +kernel)⟩
theorem lw_p15 : lw_okq (⟨"BoxPacker", "layOut", "(LBoxPacker$Box;JJ)Z"⟩, 5) := ⟨⟨by decide +kernel, by decide +kernel⟩, List.mem_of_getElem? (i := 17) (by decide +kernel), List.mem_of_getElem? (i := 489) (by decide +kernel), List.mem_of_getElem? (i := 490) (by decide +kernel)⟩
def lw_privs_1 : List (MethodName × Nat) := [(⟨"java/lang/Throwable", "fillInStackTrace", "(I)Ljava/lang/Throwable;"⟩, 6), (⟨"BoxPacker", "refuseWhenFull", "()V"⟩, 5), (⟨"BoxPacker", "append", "(LBoxPacker$Item;)I"⟩, 5), (⟨"BoxPacker", "boxNumbered", "(I)LBoxPacker$Box;"⟩, 5), (⟨"BoxPacker$Box", "fit", "(III)V"⟩, 12), (⟨"BoxPacker$Box", "measureBelow", "(I)V"⟩, 12), (⟨"BoxPacker$Box", "measureAlong", "()V"⟩, 12), (⟨"BoxPacker$Box", "gives", "(Z)[I"⟩, 12), (⟨"BoxPacker$Space", "giveOrder", "(Z)I"⟩, 5), (⟨"BoxPacker$Space", "give", "(Z)I"⟩, 5), (⟨"BoxPacker$Box", "fillUp", "(II)V"⟩, 12), (⟨"BoxPacker$Box", "findTotal", "([I)V"⟩, 12), (⟨"BoxPacker$Box", "addShares", "()V"⟩, 12), (⟨"BoxPacker$Box", "badness", "()I"⟩, 12), (⟨"BoxPacker$Marks", "clear", "()V"⟩, 2), (⟨"BoxPacker", "layOut", "(LBoxPacker$Box;JJ)Z"⟩, 5)]
theorem lw_r1 : ∀ q ∈ lw_privs_1, lw_okq q := List.forall_mem_cons.mpr ⟨lw_p0, List.forall_mem_cons.mpr ⟨lw_p1, List.forall_mem_cons.mpr ⟨lw_p2, List.forall_mem_cons.mpr ⟨lw_p3, List.forall_mem_cons.mpr ⟨lw_p4, List.forall_mem_cons.mpr ⟨lw_p5, List.forall_mem_cons.mpr ⟨lw_p6, List.forall_mem_cons.mpr ⟨lw_p7, List.forall_mem_cons.mpr ⟨lw_p8, List.forall_mem_cons.mpr ⟨lw_p9, List.forall_mem_cons.mpr ⟨lw_p10, List.forall_mem_cons.mpr ⟨lw_p11, List.forall_mem_cons.mpr ⟨lw_p12, List.forall_mem_cons.mpr ⟨lw_p13, List.forall_mem_cons.mpr ⟨lw_p14, List.forall_mem_cons.mpr ⟨lw_p15, fun _ h => absurd h List.not_mem_nil⟩⟩⟩⟩⟩⟩⟩⟩⟩⟩⟩⟩⟩⟩⟩⟩
theorem lw_p16 : lw_okq (⟨"BoxPacker", "layOutItem", "(LBoxPacker$Box;LBoxPacker$Solid;IJJ)Z"⟩, 5) := ⟨⟨by decide +kernel, by decide +kernel⟩, List.mem_of_getElem? (i := 17) (by decide +kernel), List.mem_of_getElem? (i := 493) (by decide +kernel), List.mem_of_getElem? (i := 494) (by decide +kernel)⟩
theorem lw_p17 : lw_okq (⟨"BoxPacker$Marks", "add", "(IJJIII)Z"⟩, 2) := ⟨⟨by decide +kernel, by decide +kernel⟩, List.mem_of_getElem? (i := 29) (by decide +kernel), List.mem_of_getElem? (i := 498) (by decide +kernel), List.mem_of_getElem? (i := 499) (by decide +kernel)⟩
theorem lw_p18 : lw_okq (⟨"BoxPackerModel", "isFull", "()Z"⟩, 27) := ⟨⟨by decide +kernel, by decide +kernel⟩, List.mem_of_getElem? (i := 511) (by decide +kernel), List.mem_of_getElem? (i := 615) (by decide +kernel), List.mem_of_getElem? (i := 616) (by decide +kernel)⟩
theorem lw_p19 : lw_okq (⟨"BoxPackerModel", "append", "(IIIIII)I"⟩, 27) := ⟨⟨by decide +kernel, by decide +kernel⟩, List.mem_of_getElem? (i := 511) (by decide +kernel), List.mem_of_getElem? (i := 619) (by decide +kernel), List.mem_of_getElem? (i := 620) (by decide +kernel)⟩
theorem lw_p20 : lw_okq (⟨"BoxPackerModel", "isBox", "(I)Z"⟩, 27) := ⟨⟨by decide +kernel, by decide +kernel⟩, List.mem_of_getElem? (i := 511) (by decide +kernel), List.mem_of_getElem? (i := 646) (by decide +kernel), List.mem_of_getElem? (i := 647) (by decide +kernel)⟩
theorem lw_p21 : lw_okq (⟨"BoxPackerModel", "deepest", "()I"⟩, 27) := ⟨⟨by decide +kernel, by decide +kernel⟩, List.mem_of_getElem? (i := 511) (by decide +kernel), List.mem_of_getElem? (i := 662) (by decide +kernel), List.mem_of_getElem? (i := 663) (by decide +kernel)⟩
theorem lw_p22 : lw_okq (⟨"BoxPackerModel", "number", "(II)I"⟩, 27) := ⟨⟨by decide +kernel, by decide +kernel⟩, List.mem_of_getElem? (i := 511) (by decide +kernel), List.mem_of_getElem? (i := 666) (by decide +kernel), List.mem_of_getElem? (i := 667) (by decide +kernel)⟩
theorem lw_p23 : lw_okq (⟨"BoxPackerModel", "clear", "()V"⟩, 27) := ⟨⟨by decide +kernel, by decide +kernel⟩, List.mem_of_getElem? (i := 511) (by decide +kernel), List.mem_of_getElem? (i := 670) (by decide +kernel), List.mem_of_getElem? (i := 671) (by decide +kernel)⟩
theorem lw_p24 : lw_okq (⟨"BoxPackerModel", "add", "(IZ)V"⟩, 27) := ⟨⟨by decide +kernel, by decide +kernel⟩, List.mem_of_getElem? (i := 511) (by decide +kernel), List.mem_of_getElem? (i := 674) (by decide +kernel), List.mem_of_getElem? (i := 675) (by decide +kernel)⟩
theorem lw_p25 : lw_okq (⟨"BoxPackerModel", "isSolid", "(I)Z"⟩, 27) := ⟨⟨by decide +kernel, by decide +kernel⟩, List.mem_of_getElem? (i := 511) (by decide +kernel), List.mem_of_getElem? (i := 678) (by decide +kernel), List.mem_of_getElem? (i := 679) (by decide +kernel)⟩
theorem lw_p26 : lw_okq (⟨"BoxPackerModel", "addSolid", "(IZ)V"⟩, 27) := ⟨⟨by decide +kernel, by decide +kernel⟩, List.mem_of_getElem? (i := 511) (by decide +kernel), List.mem_of_getElem? (i := 682) (by decide +kernel), List.mem_of_getElem? (i := 683) (by decide +kernel)⟩
theorem lw_p27 : lw_okq (⟨"BoxPackerModel", "grow", "(J)V"⟩, 27) := ⟨⟨by decide +kernel, by decide +kernel⟩, List.mem_of_getElem? (i := 511) (by decide +kernel), List.mem_of_getElem? (i := 686) (by decide +kernel), List.mem_of_getElem? (i := 687) (by decide +kernel)⟩
theorem lw_p28 : lw_okq (⟨"BoxPackerModel", "sizeOf", "(II)I"⟩, 27) := ⟨⟨by decide +kernel, by decide +kernel⟩, List.mem_of_getElem? (i := 511) (by decide +kernel), List.mem_of_getElem? (i := 690) (by decide +kernel), List.mem_of_getElem? (i := 691) (by decide +kernel)⟩
theorem lw_p29 : lw_okq (⟨"BoxPackerModel", "solid", "(II)I"⟩, 27) := ⟨⟨by decide +kernel, by decide +kernel⟩, List.mem_of_getElem? (i := 511) (by decide +kernel), List.mem_of_getElem? (i := 694) (by decide +kernel), List.mem_of_getElem? (i := 695) (by decide +kernel)⟩
theorem lw_p30 : lw_okq (⟨"BoxPackerModel", "greater", "(JJ)J"⟩, 27) := ⟨⟨by decide +kernel, by decide +kernel⟩, List.mem_of_getElem? (i := 511) (by decide +kernel), List.mem_of_getElem? (i := 698) (by decide +kernel), List.mem_of_getElem? (i := 699) (by decide +kernel)⟩
theorem lw_p31 : lw_okq (⟨"BoxPackerModel", "setGlue", "(IJ)V"⟩, 27) := ⟨⟨by decide +kernel, by decide +kernel⟩, List.mem_of_getElem? (i := 511) (by decide +kernel), List.mem_of_getElem? (i := 702) (by decide +kernel), List.mem_of_getElem? (i := 703) (by decide +kernel)⟩
def lw_privs_2 : List (MethodName × Nat) := [(⟨"BoxPacker", "layOutItem", "(LBoxPacker$Box;LBoxPacker$Solid;IJJ)Z"⟩, 5), (⟨"BoxPacker$Marks", "add", "(IJJIII)Z"⟩, 2), (⟨"BoxPackerModel", "isFull", "()Z"⟩, 27), (⟨"BoxPackerModel", "append", "(IIIIII)I"⟩, 27), (⟨"BoxPackerModel", "isBox", "(I)Z"⟩, 27), (⟨"BoxPackerModel", "deepest", "()I"⟩, 27), (⟨"BoxPackerModel", "number", "(II)I"⟩, 27), (⟨"BoxPackerModel", "clear", "()V"⟩, 27), (⟨"BoxPackerModel", "add", "(IZ)V"⟩, 27), (⟨"BoxPackerModel", "isSolid", "(I)Z"⟩, 27), (⟨"BoxPackerModel", "addSolid", "(IZ)V"⟩, 27), (⟨"BoxPackerModel", "grow", "(J)V"⟩, 27), (⟨"BoxPackerModel", "sizeOf", "(II)I"⟩, 27), (⟨"BoxPackerModel", "solid", "(II)I"⟩, 27), (⟨"BoxPackerModel", "greater", "(JJ)J"⟩, 27), (⟨"BoxPackerModel", "setGlue", "(IJ)V"⟩, 27)]
theorem lw_r2 : ∀ q ∈ lw_privs_2, lw_okq q := List.forall_mem_cons.mpr ⟨lw_p16, List.forall_mem_cons.mpr ⟨lw_p17, List.forall_mem_cons.mpr ⟨lw_p18, List.forall_mem_cons.mpr ⟨lw_p19, List.forall_mem_cons.mpr ⟨lw_p20, List.forall_mem_cons.mpr ⟨lw_p21, List.forall_mem_cons.mpr ⟨lw_p22, List.forall_mem_cons.mpr ⟨lw_p23, List.forall_mem_cons.mpr ⟨lw_p24, List.forall_mem_cons.mpr ⟨lw_p25, List.forall_mem_cons.mpr ⟨lw_p26, List.forall_mem_cons.mpr ⟨lw_p27, List.forall_mem_cons.mpr ⟨lw_p28, List.forall_mem_cons.mpr ⟨lw_p29, List.forall_mem_cons.mpr ⟨lw_p30, List.forall_mem_cons.mpr ⟨lw_p31, fun _ h => absurd h List.not_mem_nil⟩⟩⟩⟩⟩⟩⟩⟩⟩⟩⟩⟩⟩⟩⟩⟩
theorem lw_p32 : lw_okq (⟨"BoxPackerModel", "countAll", "()I"⟩, 27) := ⟨⟨by decide +kernel, by decide +kernel⟩, List.mem_of_getElem? (i := 511) (by decide +kernel), List.mem_of_getElem? (i := 716) (by decide +kernel), List.mem_of_getElem? (i := 717) (by decide +kernel)⟩
theorem lw_p33 : lw_okq (⟨"BoxPackerModel", "placeOf", "(II)J"⟩, 27) := ⟨⟨by decide +kernel, by decide +kernel⟩, List.mem_of_getElem? (i := 511) (by decide +kernel), List.mem_of_getElem? (i := 733) (by decide +kernel), List.mem_of_getElem? (i := 734) (by decide +kernel)⟩
theorem lw_p34 : lw_okq (⟨"BoxPackerModel", "layBox", "(IJJ)Z"⟩, 27) := ⟨⟨by decide +kernel, by decide +kernel⟩, List.mem_of_getElem? (i := 511) (by decide +kernel), List.mem_of_getElem? (i := 744) (by decide +kernel), List.mem_of_getElem? (i := 745) (by decide +kernel)⟩
theorem lw_p35 : lw_okq (⟨"BoxPackerModel", "note", "(IJJJJJ)Z"⟩, 27) := ⟨⟨by decide +kernel, by decide +kernel⟩, List.mem_of_getElem? (i := 511) (by decide +kernel), List.mem_of_getElem? (i := 748) (by decide +kernel), List.mem_of_getElem? (i := 749) (by decide +kernel)⟩
theorem lw_p36 : lw_okq (⟨"BoxPackerModel", "ruled", "(III)J"⟩, 27) := ⟨⟨by decide +kernel, by decide +kernel⟩, List.mem_of_getElem? (i := 511) (by decide +kernel), List.mem_of_getElem? (i := 752) (by decide +kernel), List.mem_of_getElem? (i := 753) (by decide +kernel)⟩
def lw_privs_3 : List (MethodName × Nat) := [(⟨"BoxPackerModel", "countAll", "()I"⟩, 27), (⟨"BoxPackerModel", "placeOf", "(II)J"⟩, 27), (⟨"BoxPackerModel", "layBox", "(IJJ)Z"⟩, 27), (⟨"BoxPackerModel", "note", "(IJJJJJ)Z"⟩, 27), (⟨"BoxPackerModel", "ruled", "(III)J"⟩, 27)]
theorem lw_r3 : ∀ q ∈ lw_privs_3, lw_okq q := List.forall_mem_cons.mpr ⟨lw_p32, List.forall_mem_cons.mpr ⟨lw_p33, List.forall_mem_cons.mpr ⟨lw_p34, List.forall_mem_cons.mpr ⟨lw_p35, List.forall_mem_cons.mpr ⟨lw_p36, fun _ h => absurd h List.not_mem_nil⟩⟩⟩⟩⟩
def lw_privs : List (MethodName × Nat) := lw_privs_1 ++ (lw_privs_2 ++ (lw_privs_3))
def lw_tbl : List Cond := k2_sels lw_privs ++ tables_1
theorem lw_privs_ok : ∀ q ∈ lw_privs, lw_okq q := by
  show ∀ q ∈ lw_privs_1 ++ (lw_privs_2 ++ (lw_privs_3)), lw_okq q
  exact List.forall_mem_append.mpr ⟨lw_r1, List.forall_mem_append.mpr ⟨lw_r2, lw_r3⟩⟩
end
section
/-! ===== outcomes: a method returns or throws; one contract says both ===== -/
/-- what is left behind a call, however it ended: warmer tables, the written slots L, at most mc cells of ms slots more -/
def xh_End (st t : State) (mc ms : Nat) (free : Addr → Prop) : Prop :=
  ∃ L : List Loc, st.WarmedH t.vm ∧ st.sameButNew ({ t with vm := st.vm } : State) L mc ms ∧ ∀ z ∈ L, free z.base
/-- the contract: from Pc the method comes to an end o with Qc -/
def xh_Met (l : Launch) (y : MethodName) (ws : List Cond) (rm : Room) (Pc : Array Value → State → Prop) (Qc : State → Outcome → State → Prop) (free : Addr → Prop) : Prop :=
  MetFree l y (headSpec ws rm) Pc (fun _ _ _ _ _ => True) (fun _ st o t => Qc st o t ∧ xh_End st t rm.cells rm.slots free)
/-- what a body owes at its end -/
def xh_MQ (below : List Frame) (Qc : State → Outcome → State → Prop) (s : State) (mc ms : Nat) (free : Addr → Prop) : State → Prop := fun t =>
  ∃ o, t.status = .running ∧ Ended t below o ∧ Qc s o t ∧ xh_End s t mc ms free
section XHA
variable {l : Launch} {y : MethodName} {ws ws' : List Cond} {rm : Room} {Pc : Array Value → State → Prop} {Qc : State → Outcome → State → Prop} {free : Addr → Prop} {cc : ByteArray} {maxL : Nat} {ret : Option FieldType}
/-- a body without handlers -/
theorem xh_Met.ofW (hy : plainName y.cls = true) (hw : ws = Cond.code y cc maxL ret :: ws')
    (body : ∀ p e s m args below meth c s₁, BodyLoose p l y (headSpec ws rm) cc maxL ret e s m args below meth c s₁ → c.maxLocals = maxL → c.exceptionTable.toList = [] → Pc args s →
      W p l e rm s m args below meth c s.heap [] 0 0 (xh_MQ below Qc s rm.cells rm.slots free) (entryFrame m args maxL)) : xh_Met l y ws rm Pc Qc free := by
  refine MetFree.of_bodyS (code := cc) (maxLocals := maxL) (ret := ret) hy ?_ ?_
  · intro args s m h hn
    obtain ⟨meth, c, h1, h2, h3, h4, h5, h6, -, -⟩ := Cond.code_spec hn (atoms_spec (ws := ws) h _ (by rw [hw]; exact List.mem_cons_self))
    exact ⟨meth, c, h1, h2, h3, h4, h5, h6⟩
  · intro p e s m args below meth c s₁ B hml hP _
    have hh0 : s₁.heap = s.heap := by rw [B.state]; rfl
    have hx : c.exceptionTable.isEmpty = true := B.noHandlers (atoms_spec (ws := ws) B.pre _ (by rw [hw]; exact List.mem_cons_self))
    have hx2 : c.exceptionTable.toList = [] := by
      have h0 : c.exceptionTable.size = 0 := by simpa [Array.isEmpty] using hx
      exact List.eq_nil_of_length_eq_zero (by simpa using h0)
    obtain ⟨t, a1, o, b1, b2, b3⟩ := body p e s m args below meth c s₁ B hml hx2 hP s₁ hh0 (Stand.of_body B)
    exact ⟨t, o, a1, b1, b2, b3⟩
/-- a body with the handlers hh -/
theorem xh_Met.ofH {hh : List (Nat × Nat × Nat × Nat)} (hy : plainName y.cls = true) (hw : ws = Cond.codeWith y cc maxL ret hh :: ws')
    (body : ∀ p e s m args below meth c s₁, BodyLoose p l y (headSpec ws rm) cc maxL ret e s m args below meth c s₁ → c.maxLocals = maxL → c.exceptionTable.toList.map (fun h => (h.startPc, h.endPc, h.handlerPc, h.catchType)) = hh → Pc args s →
      W p l e rm s m args below meth c s.heap [] 0 0 (xh_MQ below Qc s rm.cells rm.slots free) (entryFrame m args maxL)) : xh_Met l y ws rm Pc Qc free := by
  refine MetFree.of_bodyS (code := cc) (maxLocals := maxL) (ret := ret) hy ?_ ?_
  · intro args s m h hn
    obtain ⟨m9, meth, c, hn9, h1, h2, h3, h4, -, h5, h6, -⟩ := Cond.codeWith_spec (atoms_spec (ws := ws) h _ (by rw [hw]; exact List.mem_cons_self))
    cases hn.symm.trans hn9
    exact ⟨meth, c, h1, h2, h3, h4, h5, h6⟩
  · intro p e s m args below meth c s₁ B hml hP _
    have hh0 : s₁.heap = s.heap := by rw [B.state]; rfl
    obtain ⟨m9, meth9, c9, hn9, h1, h2, -, -, h7, -⟩ := Cond.codeWith_spec (atoms_spec (ws := ws) B.pre _ (by rw [hw]; exact List.mem_cons_self))
    cases B.named.symm.trans hn9
    cases B.method.symm.trans h1
    cases (Stand.of_body B).code.symm.trans h2
    obtain ⟨t, a1, o, b1, b2, b3⟩ := body p e s m args below meth c s₁ B hml h7 hP s₁ hh0 (Stand.of_body B)
    exact ⟨t, o, a1, b1, b2, b3⟩
end XHA
section XHB
variable {p : Program} {l : Launch} {e : Env} {R : Room} {s : State} {m : MethodId} {args : Array Value} {below : List Frame} {meth : Method} {c : Code} {H : Heap} {locs : List Loc} {cells slots : Nat} {Q : State → Prop}
variable {Qc : State → Outcome → State → Prop} {free : Addr → Prop} {mc ms : Nat}
/-- the kit's returns, under this end -/
theorem xh_ret {g : JFrame} (hc : cells ≤ mc) (hs : slots ≤ ms) (k : W p l e R s m args below meth c H locs cells slots (MQ below (fun _ st o t => Qc st o t) args s cells slots free) g) : W p l e R s m args below meth c H locs cells slots (xh_MQ below Qc s mc ms free) g := by
  intro T hT X
  obtain ⟨t, a1, o, b1, b2, b3, L, ⟨-, hW, hsm⟩, hL⟩ := k T hT X
  exact ⟨t, a1, o, b1, b2, b3, L, hW, hsm.mono hc hs, hL⟩
/-- the frame g stands, and q is being thrown over it -/
def xh_W (p : Program) (l : Launch) (e : Env) (R : Room) (s : State) (m : MethodId) (args : Array Value) (below : List Frame) (meth : Method) (c : Code) (H : Heap) (locs : List Loc) (cells slots : Nat) (Q : State → Prop) (g : JFrame) (q : Addr) : Prop :=
  ∀ T : State, T.heap = H → Stand p l e R s m args below meth c T locs cells slots → ∃ t, Steps p.tables e below ((T.setTop g).pushFrame (.throwing q)) t ∧ Q t
theorem xh_W.widen {g : JFrame} {q : Addr} {k n : Nat} (h1 : cells ≤ k) (h2 : slots ≤ n) (kk : xh_W p l e R s m args below meth c H locs k n Q g q) : xh_W p l e R s m args below meth c H locs cells slots Q g q := fun T hT X => kk T hT (stand_widen X h1 h2)
/-- nothing here catches it: the method ends with it -/
theorem xh_out {pc : Nat} {ls : Array Slot} {rest : List Value} {q : Addr} (hout : c.exceptionTable.toList = []) (hlocks : meth.locks = false) (hq : ∀ t : State, t.heap = H → s.WarmedH t.vm → Qc s (.threw q) t) (hf : ∀ z ∈ locs, free z.base) (hc : cells ≤ mc) (hs : slots ≤ ms) :
    xh_W p l e R s m args below meth c H locs cells slots (xh_MQ below Qc s mc ms free) (F0 m pc ls rest) q := by
  intro T hT X
  obtain ⟨st1, hrun, hend, hW, hsm⟩ := X.leaveThrown q (g := F0 m pc ls rest) rfl rfl rfl (by rw [hout]; intro x hx; cases hx) hlocks
  exact ⟨_, st1, .threw q, hrun, hend, hq _ hT hW, locs, hW, hsm.mono hc hs, hf⟩
end XHB
section XHC
variable {l : Launch} {R : Room} {p : Program} {e : Env} {below : List Frame} {s : State} {sargs : Array Value} {m : MethodId} {meth : Method} {c : Code} {U : State} {Ls : List Loc} {c0 s0 : Nat}
variable {y : MethodName} {ws : List Cond} {rm : Room} {Pc : Array Value → State → Prop} {Qc : State → Outcome → State → Prop} {free : Addr → Prop} {bytes : ByteArray} {maxL : Nat} {ret : Option FieldType} {hh : List (Nat × Nat × Nat × Nat)}
/-- where the caller stands behind the call: at the next instruction with the answer, or with q thrown over it -/
def xh_to (V : State) (g : JFrame) (len : Nat) : Outcome → State
  | .returned v => V.setTop { g with pc := g.pc + len, stack := v.toList ++ g.stack }
  | .threw q => (V.setTop g).pushFrame (.throwing q)
/-- a contract pays a call -/
theorem xh_back {g : JFrame} {ig : Instr} {len W9 : Nat} {mk : MethodId} {a : Array Value} (hM : xh_Met l y ws rm Pc Qc free) (X : Stand p l e R s m sargs below meth c U Ls c0 s0)
    (hg : g.method = m) (hsize : g.locals.size = c.maxLocals) (hdg : decode c.code g.pc = .ok (ig, len)) (hW9 : 2 * g.monitorRoom + (g.stack.map fun v => v.category).sum ≤ W9) (hn : U.methodNamed? y = some mk)
    (hws : ∀ w ∈ ws, w.before a U = true) (hcode : (Cond.codeWith y bytes maxL ret hh).before a U = true) (hini : (Cond.initialized y.cls).before a U = true)
    (hframes : rm.frames + 1 ≤ R.frames) (hlocals : W9 + (maxL + 11) + rm.locals ≤ R.locals) (hcells : c0 + rm.cells ≤ R.cells) (hslots : s0 + rm.slots ≤ R.slots) (hPc : Pc a (U.calling g mk a)) :
    ∃ (o : Outcome) (t V : State) (L : List Loc), Stand p l e R s m sargs below meth c V (Ls ++ L) (c0 + rm.cells) (s0 + rm.slots) ∧ V.heap = t.heap ∧ V.vm = t.vm ∧ (∀ z ∈ L, free z.base) ∧ Qc (U.calling g mk a) o t ∧
      Steps p.tables e below (doInvoke e (U.setTop g) [] mk a).1 (xh_to V g len o) := by
  obtain ⟨m9, methY, cY, hn9, hmY, hcY, -, hlY, -⟩ := Cond.codeWith_spec hcode
  cases hn.symm.trans hn9
  obtain ⟨kY, hkY, -⟩ := className_of_methodNamed hn
  have hinitY : kY.init = .initialized := Cond.initialized_spec (findClass_of_methodNamed hn) hkY hini
  subst hg
  have h : At U g.method c below := X.here
  have happ : (headSpec ws rm).appliesLoose y e.platform (U.calling g mk a) = true :=
    Spec.appliesLoose_calling (g := g) h hdg hn hkY hinitY (X.room_calling (g := g) (R' := rm) hsize hmY hcY hframes (by rw [hlY]; omega) hcells hslots) (atoms_intro hws)
  obtain ⟨mid, hmid⟩ := h.above
  have hfr : (U.setTop g).frames = (.java g :: mid) ++ below := by rw [State.frames_setTop' g h.top, hmid]; rfl
  obtain ⟨o, s₂, hsteps, -, hend, hq, L, hWm, hsm, hL⟩ := Steps.callFree hM p X.admits X.cas X.clock (acts := []) hfr happ hPc trivial
  rw [State.frames_setTop' g h.top] at hend
  obtain ⟨g₀, hg0⟩ := Option.isSome_iff_exists.mp h.top
  obtain ⟨r, hr⟩ := State.topJava?_eq_some.mp hg0
  obtain ⟨th, hth, -⟩ := State.frames_cons hr
  have hW' : U.WarmedH s₂.vm := hWm
  have hsm' : (U.calling g mk a).sameButNew ({ s₂ with vm := (U.calling g mk a).vm } : State) L rm.cells rm.slots := hsm
  obtain ⟨e2, q2⟩ := hsm'
  obtain ⟨V, hV⟩ : ∃ V : State, V = ({ U with heap := s₂.heap, slotsUsed := s₂.slotsUsed } : State).setVm s₂.vm := ⟨_, rfl⟩
  have hVfr : V.frames = .java g₀ :: r := by rw [hV]; exact hr
  have e3 : s₂ = V.setFrames s₂.frames := by
    have e4 : s₂ = ({ s₂ with vm := (U.calling g mk a).vm } : State).setVm s₂.vm := rfl
    rw [e2] at e4
    refine e4.trans ?_
    rw [hV, State.calling_eq h.top, State.setFrames_setFrames]
    rfl
  have hsame : U.sameButNew (V.setVm U.vm) L rm.cells rm.slots := by
    refine ⟨?_, ?_⟩
    · rw [hV]
      show ({ U with heap := s₂.heap, slotsUsed := s₂.slotsUsed } : State) = { U.setFrames U.frames with heap := s₂.heap, slotsUsed := s₂.slotsUsed }
      rw [State.setFrames_self hth]
    · rw [hV]
      exact q2
  have XV : Stand p l e R s g.method sargs below meth c V (Ls ++ L) (c0 + rm.cells) (s0 + rm.slots) :=
    X.moved (by rw [hV]; exact (X.here.setHeapUsed s₂.heap s₂.slotsUsed).setVm hW'.alike) (by rw [hV]; exact X.tail) (by rw [hV]; rfl) (by rw [hV]; rfl) (by rw [hV]; exact hW') hsame
  refine ⟨o, s₂, V, L, XV, by rw [hV]; rfl, by rw [hV]; rfl, hL, hq, ?_⟩
  cases o with
  | returned v =>
    obtain ⟨c₂, i₂, len₂, hc₂, hd₂, hf₂⟩ := hend
    have hcc : c₂ = c := by
      have h1 : s₂.code? g.method = U.code? g.method := by rw [State.code?_eq, State.code?_eq, hW'.alike.method?]
      exact Option.some.inj (hc₂.symm.trans (h1.trans h.code))
    subst hcc
    have hlen : len₂ = len := by rw [hdg] at hd₂; cases hd₂; rfl
    subst hlen
    show Steps p.tables e below _ (V.setTop { g with pc := g.pc + len₂, stack := v.toList ++ g.stack })
    rw [State.setTop_of_frames _ hVfr, show r = U.frames.tail by rw [hr]; rfl, ← hf₂, ← e3]
    exact hsteps
  | threw q =>
    have hf₂ : s₂.frames = .throwing q :: .java g :: U.frames.tail := hend
    show Steps p.tables e below _ ((V.setTop g).pushFrame (.throwing q))
    rw [State.pushFrame, State.frames_setTop _ hVfr, State.setTop_of_frames _ hVfr, State.setFrames_setFrames, show r = U.frames.tail by rw [hr]; rfl, ← hf₂, ← e3]
    exact hsteps
end XHC
end
section
/-! ===== calls of methods that return or throw ===== -/
theorem xh_cw {y : MethodName} {b : ByteArray} {n : Nat} {r : Option FieldType} {a : Array Value} {s : State} (h : (Cond.code y b n r).before a s = true) : (Cond.codeWith y b n r []).before a s = true := by
  unfold Cond.before Cond.holds at h ⊢
  rw [← Cond.code_iff_codeWith_nil]
  exact h
/-- what a caller must know of the callee -/
def xh_CB (R : Room) (s : State) (y : MethodName) (bytes : ByteArray) (maxL : Nat) (ret : Option FieldType) (hh : List (Nat × Nat × Nat × Nat)) (ws : List Cond) (rm : Room) (n : Nat) : Prop :=
  rm.frames + 1 ≤ R.frames ∧ 8 + (maxL + 11) + rm.locals ≤ R.locals ∧ (∀ w ∈ ws, ∀ (a' : Array Value) (U : State), s.WarmedH U.vm → w.before a' U = true) ∧ (∀ (a' : Array Value) (U : State), s.WarmedH U.vm → (Cond.codeWith y bytes maxL ret hh).before a' U = true) ∧
  (∀ (a' : Array Value) (U : State), s.WarmedH U.vm → (Cond.initialized y.cls).before a' U = true) ∧ (y.cls ≠ "java/lang/invoke/MethodHandle" ∧ y.cls ≠ "java/lang/invoke/VarHandle") ∧ (∀ sig, parseMethodDescriptor y.desc = some sig → n = sig.parameters.length)
/-- words that stay, in warmer tables -/
theorem xh_warm {Ts : List Cond} {args : Array Value} {s : State} (hgood : ∀ w ∈ Ts, goodWord w = true) (hts : ∀ w ∈ Ts, w.before args s = true) : ∀ w ∈ Ts, ∀ (a' : Array Value) (U : State), s.WarmedH U.vm → w.before a' U = true :=
  fun w hw a' U hW => word_at hW (good_of_word (hgood w hw)) (hts w hw)
theorem xh_CB.code {R : Room} {s : State} {args : Array Value} {y : MethodName} {bytes : ByteArray} {maxL : Nat} {ret : Option FieldType} {Ts : List Cond} {rm : Room} {n : Nat} (hgood : ∀ w ∈ Ts, goodWord w = true) (hts : ∀ w ∈ Ts, w.before args s = true)
    (hc : Cond.code y bytes maxL ret ∈ Ts) (hi : Cond.initialized y.cls ∈ Ts) (hd : y.cls ≠ "java/lang/invoke/MethodHandle" ∧ y.cls ≠ "java/lang/invoke/VarHandle" ∧ (parseMethodDescriptor y.desc).map (fun d => d.parameters.length) = some n)
    (hR : rm.frames + 1 ≤ R.frames ∧ 8 + (maxL + 11) + rm.locals ≤ R.locals) : xh_CB R s y bytes maxL ret [] (Cond.code y bytes maxL ret :: Ts) rm n := by
  have hw := xh_warm hgood hts
  refine ⟨hR.1, hR.2, fun w h => ?_, fun a' U hW => xh_cw (hw _ hc a' U hW), hw _ hi, ⟨hd.1, hd.2.1⟩, fun sig h => ?_⟩
  · rcases List.mem_cons.mp h with rfl | h
    · exact hw _ hc
    · exact hw _ h
  · have h2 := hd.2.2
    rw [h] at h2
    exact (Option.some.inj h2).symm
/-- the call at g, whose arguments lie over rest -/
def xh_Run (p : Program) (l : Launch) (e : Env) (R : Room) (s : State) (m : MethodId) (args : Array Value) (below : List Frame) (meth : Method) (c : Code) (H : Heap) (locs : List Loc) (cells slots : Nat) (g : JFrame) (rest : List Value) (rm : Room) (Qc : State → Outcome → State → Prop) (free : Addr → Prop) : Prop :=
  ∀ T : State, T.heap = H → Stand p l e R s m args below meth c T locs cells slots → ∃ (o : Outcome) (st t V : State) (L : List Loc), st.heap = H ∧ s.WarmedH st.vm ∧ Stand p l e R s m args below meth c V (locs ++ L) (cells + rm.cells) (slots + rm.slots) ∧ V.heap = t.heap ∧ V.vm = t.vm ∧ (∀ z ∈ L, free z.base) ∧ Qc st o t ∧
    Steps p.tables e below (T.setTop g) (xh_to V { g with stack := rest } 3 o)
section XHD
variable {p : Program} {l : Launch} {e : Env} {R : Room} {s : State} {m : MethodId} {args : Array Value} {below : List Frame} {meth : Method} {c : Code} {H : Heap} {locs : List Loc} {cells slots : Nat}
variable {y : MethodName} {ws : List Cond} {rm : Room} {Pc : Array Value → State → Prop} {Qc : State → Outcome → State → Prop} {free : Addr → Prop} {bytes cc : ByteArray} {maxL nL n index pc : Nat} {ret : Option FieldType} {hh : List (Nat × Nat × Nat × Nat)} {own host C : String} {b : Addr} {As rest : List Value} {ls : Array Slot}
/-- a virtual call, the method being the named one -/
theorem xh_runV (hx : p.tables.exec = Jvm.exec) (hb : c.code = cc) (hml : c.maxLocals = nL) (hown : s.vm.findClass own = some m.cls) (hM : xh_Met l y ws rm Pc Qc free) (cb : xh_CB R s y bytes maxL ret hh ws rm n)
    (hlink : (Cond.methodLink own index y).before args s = true) (hinst : (Cond.instanceMethod y).before args s = true) (hsel : (Cond.selects C y y).before args s = true) (hbl : FrameBlind Pc)
    (hrecv : ∃ cellB : Cell, H[b]? = some cellB ∧ cellB.vm.isStatics = false ∧ s.vm.findClass C = some cellB.cls) (hPc : ∀ U : State, U.heap = H → s.WarmedH U.vm → Pc (Value.ref b :: As).toArray U)
    (hn : As.length = n) (hsize : ls.size = nL) (hW9 : 2 * (F0 m pc ls rest).monitorRoom + (rest.map fun v => v.category).sum ≤ 8) (hdg : decode cc pc = .ok (.invokevirtual index, 3)) (hf : cells + rm.cells ≤ R.cells ∧ slots + rm.slots ≤ R.slots) :
    xh_Run p l e R s m args below meth c H locs cells slots (F0 m pc ls (As.reverse ++ .ref b :: rest)) rest rm Qc free := by
  intro T hT X
  obtain ⟨hfr, hlo, hws, hcw, hini, hy, hlen⟩ := cb
  obtain ⟨mk, methM, hnamed, hmethM, hstM, habM⟩ := Cond.instanceMethod_spec hinst
  obtain ⟨m9, meth9, c9, hn9, hm9, -, -, -, -, -, -, hsigM⟩ := Cond.codeWith_spec (hcw args s (State.WarmedH.refl s))
  cases hnamed.symm.trans hn9
  cases hmethM.symm.trans hm9
  obtain ⟨c2, r2, m2, q1, q2, q3, q4, kP, hkP, hkPi⟩ := Cond.selects_spec hsel
  obtain ⟨cellB, hcB, hoB, hclB⟩ := hrecv
  cases hclB.symm.trans q1
  cases (State.methodFound?_of_named hnamed hy).symm.trans q2
  cases hnamed.symm.trans q3
  have hselP : selectMethod e.platform s.vm cellB.cls mk = .method mk := by rw [Launch.admits_selectMethod X.admits]; exact q4
  have hdg' : decode c.code pc = .ok (.invokevirtual index, 3) := by rw [hb]; exact hdg
  obtain ⟨vm₁, X₁, hstep₁⟩ := X.invokevirtual hx hown hlink hnamed hmethM hstM hkP hkPi hy (a := b) (cell := cellB) (by rw [hT]; exact hcB) (fun z h => by rw [h] at hoB; cases hoB) hselP hmethM habM hkP hkPi
    (g := F0 m pc ls (As.reverse ++ .ref b :: rest)) rfl (argsL := As) (rest := rest) (hn.trans (hlen _ hsigM)) rfl hdg'
  obtain ⟨o, t, V, L, XV, e1, e2, hL, hq, hst⟩ := xh_back hM X₁ (g := F0 m pc ls rest) (W9 := 8) (a := (Value.ref b :: As).toArray) rfl (hsize.trans hml.symm) hdg' hW9 (X₁.named hnamed) (fun w hw => hws w hw _ _ X₁.warmed) (hcw _ _ X₁.warmed) (hini _ _ X₁.warmed) hfr hlo hf.1 hf.2
    (hbl _ _ _ _ (hPc (T.setVm vm₁) hT X₁.warmed))
  exact ⟨o, (T.setVm vm₁).calling (F0 m pc ls rest) mk (Value.ref b :: As).toArray, t, V, L, hT, X₁.warmed, XV, e1, e2, hL, hq, hstep₁ _ fun acts => by rw [doInvoke_state]; exact hst⟩
/-- a virtual call of a nest mate's private method -/
theorem xh_runVN (hx : p.tables.exec = Jvm.exec) (hb : c.code = cc) (hml : c.maxLocals = nL) (hown : s.vm.findClass own = some m.cls) (hM : xh_Met l y ws rm Pc Qc free) (cb : xh_CB R s y bytes maxL ret hh ws rm n)
    (hlink : (Cond.methodLinkNest own index y host).before args s = true) (hinst : (Cond.instanceMethod y).before args s = true) (hsel : (Cond.selects C y y).before args s = true) (hbl : FrameBlind Pc)
    (hrecv : ∃ cellB : Cell, H[b]? = some cellB ∧ cellB.vm.isStatics = false ∧ s.vm.findClass C = some cellB.cls) (hPc : ∀ U : State, U.heap = H → s.WarmedH U.vm → Pc (Value.ref b :: As).toArray U)
    (hn : As.length = n) (hsize : ls.size = nL) (hW9 : 2 * (F0 m pc ls rest).monitorRoom + (rest.map fun v => v.category).sum ≤ 8) (hdg : decode cc pc = .ok (.invokevirtual index, 3)) (hf : cells + rm.cells ≤ R.cells ∧ slots + rm.slots ≤ R.slots) :
    xh_Run p l e R s m args below meth c H locs cells slots (F0 m pc ls (As.reverse ++ .ref b :: rest)) rest rm Qc free := by
  intro T hT X
  obtain ⟨hfr, hlo, hws, hcw, hini, hy, hlen⟩ := cb
  obtain ⟨mk, methM, hnamed, hmethM, hstM, habM⟩ := Cond.instanceMethod_spec hinst
  obtain ⟨m9, meth9, c9, hn9, hm9, -, -, -, -, -, -, hsigM⟩ := Cond.codeWith_spec (hcw args s (State.WarmedH.refl s))
  cases hnamed.symm.trans hn9
  cases hmethM.symm.trans hm9
  obtain ⟨c2, r2, m2, q1, q2, q3, q4, kP, hkP, hkPi⟩ := Cond.selects_spec hsel
  obtain ⟨cellB, hcB, hoB, hclB⟩ := hrecv
  cases hclB.symm.trans q1
  cases (State.methodFound?_of_named hnamed hy).symm.trans q2
  cases hnamed.symm.trans q3
  have hselP : selectMethod e.platform s.vm cellB.cls mk = .method mk := by rw [Launch.admits_selectMethod X.admits]; exact q4
  have hdg' : decode c.code pc = .ok (.invokevirtual index, 3) := by rw [hb]; exact hdg
  obtain ⟨vm₁, X₁, hstep₁⟩ := X.invokevirtualNest hx hown hlink hnamed hmethM hstM hkP hkPi hy (a := b) (cell := cellB) (by rw [hT]; exact hcB) (fun z h => by rw [h] at hoB; cases hoB) hselP hmethM habM hkP hkPi
    (g := F0 m pc ls (As.reverse ++ .ref b :: rest)) rfl (argsL := As) (rest := rest) (hn.trans (hlen _ hsigM)) rfl hdg'
  obtain ⟨o, t, V, L, XV, e1, e2, hL, hq, hst⟩ := xh_back hM X₁ (g := F0 m pc ls rest) (W9 := 8) (a := (Value.ref b :: As).toArray) rfl (hsize.trans hml.symm) hdg' hW9 (X₁.named hnamed) (fun w hw => hws w hw _ _ X₁.warmed) (hcw _ _ X₁.warmed) (hini _ _ X₁.warmed) hfr hlo hf.1 hf.2
    (hbl _ _ _ _ (hPc (T.setVm vm₁) hT X₁.warmed))
  exact ⟨o, (T.setVm vm₁).calling (F0 m pc ls rest) mk (Value.ref b :: As).toArray, t, V, L, hT, X₁.warmed, XV, e1, e2, hL, hq, hstep₁ _ fun acts => by rw [doInvoke_state]; exact hst⟩
/-- a static call -/
theorem xh_runS (hx : p.tables.exec = Jvm.exec) (hb : c.code = cc) (hml : c.maxLocals = nL) (hown : s.vm.findClass own = some m.cls) (hM : xh_Met l y ws rm Pc Qc free) (cb : xh_CB R s y bytes maxL ret hh ws rm n)
    (hlink : (Cond.methodLink own index y).before args s = true) (hstat : (Cond.static y).before args s = true) (hbl : FrameBlind Pc) (hPc : ∀ U : State, U.heap = H → s.WarmedH U.vm → Pc As.toArray U)
    (hn : As.length = n) (hsize : ls.size = nL) (hW9 : 2 * (F0 m pc ls rest).monitorRoom + (rest.map fun v => v.category).sum ≤ 8) (hdg : decode cc pc = .ok (.invokestatic index, 3)) (hf : cells + rm.cells ≤ R.cells ∧ slots + rm.slots ≤ R.slots) :
    xh_Run p l e R s m args below meth c H locs cells slots (F0 m pc ls (As.reverse ++ rest)) rest rm Qc free := by
  intro T hT X
  obtain ⟨hfr, hlo, hws, hcw, hini, hy, hlen⟩ := cb
  obtain ⟨mk, methM, cM, hnamed, hmethM, -, -, -, -, -, -, hsigM⟩ := Cond.codeWith_spec (hcw args s (State.WarmedH.refl s))
  have hstatic : methM.isStatic = true := Cond.static_spec hnamed hmethM hstat
  obtain ⟨kP, hkP, -⟩ := className_of_methodNamed hnamed
  have hinitP : kP.init = .initialized := Cond.initialized_spec (findClass_of_methodNamed hnamed) hkP (hini args s (State.WarmedH.refl s))
  have hdg' : decode c.code pc = .ok (.invokestatic index, 3) := by rw [hb]; exact hdg
  obtain ⟨vm₁, X₁, hstep₁⟩ := X.invokestatic hx hown hlink hnamed hmethM hstatic hkP hinitP hy (g := F0 m pc ls (As.reverse ++ rest)) rfl (argsL := As) (rest := rest) (hn.trans (hlen _ hsigM)) rfl hdg'
  obtain ⟨o, t, V, L, XV, e1, e2, hL, hq, hst⟩ := xh_back hM X₁ (g := F0 m pc ls rest) (W9 := 8) (a := As.toArray) rfl (hsize.trans hml.symm) hdg' hW9 (X₁.named hnamed) (fun w hw => hws w hw _ _ X₁.warmed) (hcw _ _ X₁.warmed) (hini _ _ X₁.warmed) hfr hlo hf.1 hf.2
    (hbl _ _ _ _ (hPc (T.setVm vm₁) hT X₁.warmed))
  exact ⟨o, (T.setVm vm₁).calling (F0 m pc ls rest) mk As.toArray, t, V, L, hT, X₁.warmed, XV, e1, e2, hL, hq, hstep₁ _ fun acts => by rw [doInvoke_state]; exact hst⟩
/-- a static call of a nest mate's private method -/
theorem xh_runSN (hx : p.tables.exec = Jvm.exec) (hb : c.code = cc) (hml : c.maxLocals = nL) (hown : s.vm.findClass own = some m.cls) (hM : xh_Met l y ws rm Pc Qc free) (cb : xh_CB R s y bytes maxL ret hh ws rm n)
    (hlink : (Cond.methodLinkNest own index y host).before args s = true) (hstat : (Cond.static y).before args s = true) (hbl : FrameBlind Pc) (hPc : ∀ U : State, U.heap = H → s.WarmedH U.vm → Pc As.toArray U)
    (hn : As.length = n) (hsize : ls.size = nL) (hW9 : 2 * (F0 m pc ls rest).monitorRoom + (rest.map fun v => v.category).sum ≤ 8) (hdg : decode cc pc = .ok (.invokestatic index, 3)) (hf : cells + rm.cells ≤ R.cells ∧ slots + rm.slots ≤ R.slots) :
    xh_Run p l e R s m args below meth c H locs cells slots (F0 m pc ls (As.reverse ++ rest)) rest rm Qc free := by
  intro T hT X
  obtain ⟨hfr, hlo, hws, hcw, hini, hy, hlen⟩ := cb
  obtain ⟨mk, methM, cM, hnamed, hmethM, -, -, -, -, -, -, hsigM⟩ := Cond.codeWith_spec (hcw args s (State.WarmedH.refl s))
  have hstatic : methM.isStatic = true := Cond.static_spec hnamed hmethM hstat
  obtain ⟨kP, hkP, -⟩ := className_of_methodNamed hnamed
  have hinitP : kP.init = .initialized := Cond.initialized_spec (findClass_of_methodNamed hnamed) hkP (hini args s (State.WarmedH.refl s))
  have hdg' : decode c.code pc = .ok (.invokestatic index, 3) := by rw [hb]; exact hdg
  obtain ⟨vm₁, X₁, hstep₁⟩ := X.invokestaticNest hx hown hlink hnamed hmethM hstatic hkP hinitP hy (g := F0 m pc ls (As.reverse ++ rest)) rfl (argsL := As) (rest := rest) (hn.trans (hlen _ hsigM)) rfl hdg'
  obtain ⟨o, t, V, L, XV, e1, e2, hL, hq, hst⟩ := xh_back hM X₁ (g := F0 m pc ls rest) (W9 := 8) (a := As.toArray) rfl (hsize.trans hml.symm) hdg' hW9 (X₁.named hnamed) (fun w hw => hws w hw _ _ X₁.warmed) (hcw _ _ X₁.warmed) (hini _ _ X₁.warmed) hfr hlo hf.1 hf.2
    (hbl _ _ _ _ (hPc (T.setVm vm₁) hT X₁.warmed))
  exact ⟨o, (T.setVm vm₁).calling (F0 m pc ls rest) mk As.toArray, t, V, L, hT, X₁.warmed, XV, e1, e2, hL, hq, hstep₁ _ fun acts => by rw [doInvoke_state]; exact hst⟩
/-- a constructor -/
theorem xh_runI (hx : p.tables.exec = Jvm.exec) (hb : c.code = cc) (hml : c.maxLocals = nL) (hown : s.vm.findClass own = some m.cls) (hM : xh_Met l y ws rm Pc Qc free) (cb : xh_CB R s y bytes maxL none [] ws rm n) (hy1 : y.name = "<init>")
    (hlink : (Cond.methodLink own index y).before args s = true) (hinst : (Cond.instanceMethod y).before args s = true) (hcode : (Cond.code y bytes maxL none).before args s = true) (hbl : FrameBlind Pc) (hPc : ∀ U : State, U.heap = H → s.WarmedH U.vm → Pc (Value.ref b :: As).toArray U)
    (hn : As.length = n) (hsize : ls.size = nL) (hW9 : 2 * (F0 m pc ls rest).monitorRoom + (rest.map fun v => v.category).sum ≤ 8) (hdg : decode cc pc = .ok (.invokespecial index, 3)) (hf : cells + rm.cells ≤ R.cells ∧ slots + rm.slots ≤ R.slots) :
    xh_Run p l e R s m args below meth c H locs cells slots (F0 m pc ls (As.reverse ++ .ref b :: rest)) rest rm Qc free := by
  intro T hT X
  obtain ⟨hfr, hlo, hws, hcw, hini, hy, hlen⟩ := cb
  have hpl : e.platform.magicAccessors = ({} : Platform).magicAccessors := by rw [X.admits.platform]
  have hdg' : decode c.code pc = .ok (.invokespecial index, 3) := by rw [hb]; exact hdg
  obtain ⟨mk, methM, cM, kP, vm₁, hnamed, hmethM, hcodeM, -, hlocalsM, -, hkP, -, hW₁, hstep₁⟩ := Steps.initColdArgs (e := e) X.here hx X.warmed hpl hown hy1 hy hlink hinst hcode (f := F0 m pc ls (As.reverse ++ .ref b :: rest)) rfl (argsL := As) (rest := rest) (a := b) (fun sig h => hn.trans (hlen sig h)) rfl hdg'
  have X₁ := X.noted hW₁
  obtain ⟨o, t, V, L, XV, e1, e2, hL, hq, hst⟩ := xh_back hM X₁ (g := F0 m pc ls rest) (W9 := 8) (a := (Value.ref b :: As).toArray) rfl (hsize.trans hml.symm) hdg' hW9 (X₁.named hnamed) (fun w hw => hws w hw _ _ X₁.warmed) (hcw _ _ X₁.warmed) (hini _ _ X₁.warmed) hfr hlo hf.1 hf.2
    (hbl _ _ _ _ (hPc (T.setVm vm₁) hT X₁.warmed))
  exact ⟨o, (T.setVm vm₁).calling (F0 m pc ls rest) mk (Value.ref b :: As).toArray, t, V, L, hT, X₁.warmed, XV, e1, e2, hL, hq, hstep₁ _ fun acts => by rw [doInvoke_state]; exact hst⟩
/-- a nest mate's private constructor -/
theorem xh_runIN (hx : p.tables.exec = Jvm.exec) (hb : c.code = cc) (hml : c.maxLocals = nL) (hown : s.vm.findClass own = some m.cls) (hM : xh_Met l y ws rm Pc Qc free) (cb : xh_CB R s y bytes maxL none [] ws rm n) (hy1 : y.name = "<init>")
    (hlink : (Cond.methodLinkNest own index y host).before args s = true) (hinst : (Cond.instanceMethod y).before args s = true) (hcode : (Cond.code y bytes maxL none).before args s = true) (hbl : FrameBlind Pc) (hPc : ∀ U : State, U.heap = H → s.WarmedH U.vm → Pc (Value.ref b :: As).toArray U)
    (hn : As.length = n) (hsize : ls.size = nL) (hW9 : 2 * (F0 m pc ls rest).monitorRoom + (rest.map fun v => v.category).sum ≤ 8) (hdg : decode cc pc = .ok (.invokespecial index, 3)) (hf : cells + rm.cells ≤ R.cells ∧ slots + rm.slots ≤ R.slots) :
    xh_Run p l e R s m args below meth c H locs cells slots (F0 m pc ls (As.reverse ++ .ref b :: rest)) rest rm Qc free := by
  intro T hT X
  obtain ⟨hfr, hlo, hws, hcw, hini, hy, hlen⟩ := cb
  have hpl : e.platform.magicAccessors = ({} : Platform).magicAccessors := by rw [X.admits.platform]
  have hdg' : decode c.code pc = .ok (.invokespecial index, 3) := by rw [hb]; exact hdg
  obtain ⟨mk, methM, cM, kP, vm₁, hnamed, hmethM, hcodeM, -, hlocalsM, -, hkP, -, hW₁, hstep₁⟩ := Steps.initColdArgsNest (e := e) X.here hx X.warmed hpl hown hy1 hy hlink hinst hcode (f := F0 m pc ls (As.reverse ++ .ref b :: rest)) rfl (argsL := As) (rest := rest) (a := b) (fun sig h => hn.trans (hlen sig h)) rfl hdg'
  have X₁ := X.noted hW₁
  obtain ⟨o, t, V, L, XV, e1, e2, hL, hq, hst⟩ := xh_back hM X₁ (g := F0 m pc ls rest) (W9 := 8) (a := (Value.ref b :: As).toArray) rfl (hsize.trans hml.symm) hdg' hW9 (X₁.named hnamed) (fun w hw => hws w hw _ _ X₁.warmed) (hcw _ _ X₁.warmed) (hini _ _ X₁.warmed) hfr hlo hf.1 hf.2
    (hbl _ _ _ _ (hPc (T.setVm vm₁) hT X₁.warmed))
  exact ⟨o, (T.setVm vm₁).calling (F0 m pc ls rest) mk (Value.ref b :: As).toArray, t, V, L, hT, X₁.warmed, XV, e1, e2, hL, hq, hstep₁ _ fun acts => by rw [doInvoke_state]; exact hst⟩
end XHD
end
section
/-! ===== throw new E("text"), and a caller's handlers ===== -/
section XHE
variable {p : Program} {l : Launch} {e : Env} {R : Room} {s : State} {m : MethodId} {args : Array Value} {below : List Frame} {meth : Method} {c : Code} {H : Heap} {locs : List Loc} {cells slots : Nat} {Q : State → Prop}
/-- the frame as it stands, taken for one that has just been entered: nothing written, nothing made -/
theorem xh_anew {T : State} (X : Stand p l e R s m args below meth c T locs cells slots) {R' : Room} (hf : R'.frames ≤ R.frames) (hl : R'.locals ≤ R.locals) (hc : cells + R'.cells ≤ R.cells) (hs : slots + R'.slots ≤ R.slots) :
    Stand p l e R' ((T.setVm s.vm).setFrames (.invoking m args :: below)) m args below meth c T [] 0 0 := by
  obtain ⟨g₀, hfr⟩ := X.frames_eq
  have hcur : (T.setVm s.vm).cur < (T.setVm s.vm).threads.size := State.cur_lt_of_frames hfr
  have hF : ((T.setVm s.vm).setFrames (.invoking m args :: below)).frames = .invoking m args :: below := State.frames_setFrames _ hcur
  have hU : ((T.setVm s.vm).setFrames (.invoking m args :: below)).localsInUse = s.localsInUse := by
    rw [State.localsInUse_invoking hF (meth := meth) (c := c) X.method X.code, State.localsInUse_invoking X.frames X.method X.code]
  have hl9 : e.platform.stackLimits (T.setVm s.vm).me = e.platform.stackLimits s.me := X.limits
  have hb9 : (T.setVm s.vm).me.stackBytes = s.me.stackBytes := X.bytes
  have q1 := X.heapSize
  have q2 := X.used
  have hroom : ((T.setVm s.vm).setFrames (.invoking m args :: below)).hasRoom e.platform R' = true := by
    have h := X.room
    simp only [State.hasRoom, Bool.and_eq_true, decide_eq_true_eq] at h ⊢
    obtain ⟨⟨⟨⟨h1, h2, h3, h4, h5, h6⟩, h7⟩, h8⟩, h9⟩ := h
    rw [X.frames, List.length_cons] at h2 h3
    rw [hF, hU, List.length_cons, State.stackLimits_setFrames, State.stackBytes_setFrames, hl9, hb9]
    refine ⟨⟨⟨⟨by omega, by omega, by omega, by omega, by omega, h6⟩, ?_⟩, ?_⟩, X.book⟩
    · show T.heap.size + R'.cells ≤ _
      omega
    · show T.slotsUsed + R'.slots ≤ _
      omega
  obtain ⟨th, hth, -⟩ := State.frames_cons hfr
  have hdrop : T.heap.toList.drop T.heap.size = [] := List.drop_eq_nil_of_le (Nat.le_of_eq Array.length_toList)
  refine ⟨X.admits, X.cas, X.clock, hF, hroom, X.hears, X.method, X.code, X.here, X.tail, X.warmed, ?_, ?_, ?_⟩
  · rw [State.stackLimits_setFrames]; rfl
  · rw [State.stackBytes_setFrames]; rfl
  · refine ⟨?_, Nat.le_refl _, Nat.le_refl _, ?_, ?_, fun a c9 h9 => ⟨c9, h9, rfl, rfl, fun _ _ => rfl⟩⟩
    · show T.setVm s.vm = { ((T.setVm s.vm).setFrames (.invoking m args :: below)).setFrames (T.setVm s.vm).frames with heap := T.heap, slotsUsed := T.slotsUsed }
      rw [State.setFrames_setFrames, State.setFrames_self (s := T.setVm s.vm) hth]
      rfl
    · show T.slotsUsed = T.slotsUsed + ((T.heap.toList.drop T.heap.size).map (·.slots.size)).sum
      rw [hdrop]; rfl
    · show ((T.heap.toList.drop T.heap.size).map (·.slots.size)).sum ≤ 0
      rw [hdrop]; exact Nat.le_refl _
/-- what 'nothing written' says of a heap -/
theorem xh_same {t : State} {k n : Nat} (h : s.sameButNew ({ t with vm := s.vm } : State) [] k n) : s.heap.size ≤ t.heap.size ∧ ∀ q : Nat, q < s.heap.size → t.heap[q]? = s.heap[q]? := by
  obtain ⟨-, h2, -, -, -, h6⟩ := h
  refine ⟨h2, fun q hq => ?_⟩
  have h0 : s.heap[q]? = some s.heap[q] := Array.getElem?_eq_getElem hq
  obtain ⟨c9, e1, e2, -, e4⟩ := h6 q _ h0
  have hs : c9.slots = (s.heap[q]).slots := Array.ext_getElem? fun i => e4 i (by simp)
  have h9 : c9 = s.heap[q] := by rw [hs] at e2; exact e2
  have e5 : t.heap[q]? = some c9 := e1
  rw [e5, h9, h0]
variable {Qc : State → Outcome → State → Prop} {free : Addr → Prop} {mc ms : Nat} {cc : ByteArray} {pc : Nat} {ls : Array Slot} {rest : List Value}
set_option maxHeartbeats 1000000 in
/-- throw new E("text"): new, dup, ldc, invokespecial, athrow; nothing here catches it -/
theorem xh_throw (hx : p.tables.exec = Jvm.exec) (hb : c.code = cc) (hl : l.stackTraces = false) {own cls text : String} {names : List String} {ik is ic b0 : Nat}
    (hown : s.vm.findClass own = some m.cls) (hcls : Bundle.fit cls = true) (hnames : ∀ n ∈ names, Bundle.fit n = true)
    (hF : ∀ U : State, s.WarmedH U.vm → (∀ q : Nat, q < b0 → U.heap[q]? = s.heap[q]?) → (∀ (A : Array Value) (w : Cond), w ∈ Cond.classLink own ik cls :: Cond.initialized cls :: Bundle.ownAtoms own ic cls names → w.before A U = true) ∧ ∃ sa : Nat, vk_R own is text sa U)
    (hb0 : ∀ q : Nat, q < b0 → H[q]? = s.heap[q]?) (hsize : ls.size = c.maxLocals)
    (d0 : decode cc pc = .ok (.new ik, 3)) (d3 : decode cc (pc + 3) = .ok (.dup, 1)) (d4 : decode cc (pc + 4) = .ok (.ldc is, 2)) (d6 : decode cc (pc + 6) = .ok (.invokespecial ic, 3)) (d9 : decode cc (pc + 9) = .ok (.athrow, 1))
    (hout : c.exceptionTable.toList = []) (hRf : names.length + 3 < R.frames) (hRl : (rest.map fun v => v.category).sum + (13 * (names.length + 1) + 43) ≤ R.locals) (hlocks : meth.locks = false)
    (hq : ∀ (t : State) (q : Addr) (ce : Cell), s.WarmedH t.vm → H.size ≤ t.heap.size → (∀ z : Nat, z < H.size → t.heap[z]? = H[z]?) → H.size ≤ q → t.heap[q]? = some ce → ce.vm = .none → s.vm.findClass cls = some ce.cls → Qc s (.threw q) t)
    (hf : ∀ z ∈ locs, free z.base) (hc : cells + 1 ≤ mc) (hs : slots + 6 ≤ ms) (hmc : mc ≤ R.cells) (hms : ms ≤ R.slots) :
    W p l e R s m args below meth c H locs cells slots (xh_MQ below Qc s mc ms free) (F0 m pc ls rest) := by
  intro T hT X
  have htr : e.platform.stackTraces = false := (show e.platform.stackTraces = l.stackTraces by rw [X.admits.platform]).trans hl
  have Y := xh_anew X (R' := { frames := R.frames, locals := R.locals, cells := 1, slots := 6 }) (Nat.le_refl _) (Nat.le_refl _) (Nat.le_trans hc hmc) (Nat.le_trans hs hms)
  obtain ⟨s', hA⟩ : ∃ z, z = (T.setVm s.vm).setFrames (.invoking m args :: below) := ⟨_, rfl⟩
  rw [← hA] at Y
  have hvm : s'.vm = s.vm := by rw [hA]; rfl
  have hhp : s'.heap = H := by rw [hA]; exact hT
  have hW0 : s.WarmedH s'.vm := by rw [hvm]; exact State.WarmedH.refl s
  obtain ⟨hat, sa, hstr⟩ := hF s' hW0 (fun q h => by rw [hhp]; exact hb0 q h)
  have hown' : s'.vm.findClass own = some m.cls := by rw [hvm]; exact hown
  have h : ∀ w ∈ Bundle.ownAtoms own ic cls names, w.before args s' = true := fun w hw => hat args w (List.mem_cons_of_mem _ (List.mem_cons_of_mem _ hw))
  obtain ⟨vm₁, cX, kX, hfX, hkX, -, -, X₁, st1⟩ := Y.newCold hx (own := own) (C := cls) (index := ik) (n := 6) hown' (hat args _ List.mem_cons_self) (h _ (by simp [Bundle.ownAtoms])) (hat args _ (List.mem_cons_of_mem _ List.mem_cons_self))
    (g := F0 m pc ls rest) rfl (by rw [hb]; exact d0) (Nat.le_refl _) (Nat.le_refl _)
  generalize hT1 : (T.setVm vm₁).pushCell { cls := cX, slots := kX.instanceTypes.map defaultValue, vm := .none } = T1 at X₁ st1
  have hcellA : T1.heap[T.heap.size]? = some (freshCell cX kX) := by rw [← hT1]; exact State.heap_pushCell_size _ _
  have d3' : decode c.code (pc + 3) = .ok (.dup, 1) := by rw [hb]; exact d3
  have d4' : decode c.code (pc + 4) = .ok (.ldc is, 2) := by rw [hb]; exact d4
  have hcat : (Value.ref T.heap.size).category = 1 := rfl
  obtain ⟨U, hsteps, hrun, hend, hW, hsame, ce, hce, hO⟩ := X₁.ctorThrowS hx htr (own := own) (cls := cls) (names := names) (ic := ic) hown' hcls hnames h (fun x hx => nomatch hx) hfX hkX hcellA (by rw [hhp, hT]; exact Nat.le_refl _) (msg := .ref sa) rfl
    (g := { method := m, pc := pc + 6, locals := ls, stack := .ref sa :: .ref T.heap.size :: .ref T.heap.size :: rest, locked := none }) rfl hsize rfl rfl (rest := rest) rfl
    (by rw [hb]; exact d6) (by rw [hb]; exact d9) (by rw [hout]; intro x hx; cases hx) hRf (by simp only [List.map_cons, List.sum_cons, hcat]; omega) hlocks
  obtain ⟨f1, f2⟩ := xh_same hsame
  rw [hhp] at f1 f2
  have hWs : s.WarmedH U.vm := State.WarmedH.trans hW0 hW
  have hcl : s.vm.findClass cls = some ce.cls := by have h9 := hO.cls; rw [hvm] at h9; exact h9
  have hall : s.sameButNew ({ U with vm := s.vm } : State) locs mc ms := by
    subst hA
    obtain ⟨e1, e2⟩ := hsame
    rw [State.setFrames_setFrames] at e1
    have h2 : (T.setVm s.vm).sameButNew ({ U with vm := s.vm } : State) [] (0 + 1) (0 + 6) := ⟨e1, e2⟩
    have h3 := X.same.trans h2
    rw [List.append_nil] at h3
    exact h3.mono hc hs
  refine ⟨U, ?_, .threw T.heap.size, hrun, hend, hq U _ ce hWs f1 f2 (by rw [hT]; exact Nat.le_refl _) hce hO.vm hcl, locs, hWs, hall, hf⟩
  refine st1 _ ?_
  show Steps p.tables e below (T1.setTop { method := m, pc := pc + 3, locals := ls, stack := .ref T.heap.size :: rest, locked := none }) _
  jvm_step X₁.here [X₁.here.top, hx, d3', Value.category]
  exact X₁.ldcString hx (own := own) (text := text) (index := is) (a := sa) hown' hstr.1 hstr.2
    (g := { method := m, pc := pc + 4, locals := ls, stack := .ref T.heap.size :: .ref T.heap.size :: rest, locked := none }) rfl d4' _ hsteps
end XHE
section XHF
variable {Q : Handler → Pre} {E : CtlPost} {e : Env} {d : Bool} {acts : List Action} {s : State} {f : JFrame} {a : Addr}
/-- a row of a handlers' table whose class is looked up: it takes the object, or the search goes on -/
theorem xh_row {x : ExceptionTableEntry} {t : List ExceptionTableEntry} {k : ClassId} {cell : Cell} {b : Bool} (hx : covers x f.pc = true) (h0 : x.catchType ≠ 0) (hl : s.vm.ClassLinks e.platform f.method.cls x.catchType k) (hcell : s.heap[a]? = some cell) (hobj : ∀ z, cell.vm ≠ .statics z)
    (hk : ∃ z, s.vm.classes[cell.cls]? = some z) (hc : ∃ z, s.vm.classes[k]? = some z) (hb : s.vm.assignable cell.cls k = b) :
    wp (findHandler.go f a (x :: t)) Q E e d acts s ↔ (if b = true then Q (.found x.handlerPc) d acts (s.setVm (s.vm.noted f.method.cls x.catchType (.cls k))) else wp (findHandler.go f a t) Q E e d acts (s.setVm (s.vm.noted f.method.cls x.catchType (.cls k)))) := by
  simp only [covers] at hx
  obtain ⟨ha, ht⟩ := (resolveClass_links e.toSetting hl).op (op := VmOp.resolveClass f.method.cls x.catchType) rfl
  have hal : s.vm.Alike (s.vm.noted f.method.cls x.catchType (.cls k)) := (Vm.Alike.refl s.vm).noted _ _ _
  obtain ⟨k1, hk1⟩ := hk
  obtain ⟨k2, hk2⟩ := hc
  obtain ⟨k1', hk1', -⟩ := hal.2.2 _ _ hk1
  obtain ⟨k2', hk2', -⟩ := hal.2.2 _ _ hk2
  have hb' : (s.vm.noted f.method.cls x.catchType (.cls k)).assignable cell.cls k = b := by rw [hal.assignable]; exact hb
  cases b <;> simp [findHandler.go, hx, h0, ha, ht, hcell, hobj, hk1', hk2', hb', VmOp.dirties, VmOp.acts]
end XHF
/-- the rows ahead are passed, x takes it -/
theorem xh_find {e : Env} {s₀ : State} {f : JFrame} {a : Addr} {cell : Cell} (hobj : ∀ z, cell.vm ≠ .statics z) (hk0 : ∃ k, s₀.vm.classes[cell.cls]? = some k) {x : ExceptionTableEntry} {suf : List ExceptionTableEntry} {k : ClassId}
    (hx : covers x f.pc = true) (h0 : x.catchType ≠ 0) (hl : s₀.vm.ClassLinks e.platform f.method.cls x.catchType k) (hfit : s₀.vm.assignable cell.cls k = true) :
    ∀ (pre : List ExceptionTableEntry) (S : State), s₀.WarmedH S.vm → S.heap[a]? = some cell → (∀ y ∈ pre, covers y f.pc = true ∧ y.catchType ≠ 0 ∧ ∃ k' : ClassId, s₀.vm.ClassLinks e.platform f.method.cls y.catchType k' ∧ s₀.vm.assignable cell.cls k' = false) →
      ∃ vm', s₀.WarmedH vm' ∧ ∀ (Q : Handler → Pre) (E : CtlPost) (d : Bool) (acts : List Action), wp (findHandler.go f a (pre ++ x :: suf)) Q E e d acts S ↔ Q (.found x.handlerPc) d acts (S.setVm vm') := by
  obtain ⟨k0, hk0⟩ := hk0
  intro pre
  induction pre with
  | nil =>
    intro S hW hcell _
    obtain ⟨k0', hk0', -⟩ := hW.alike.2.2 _ _ hk0
    obtain ⟨dk, _, _, kt, hd, _, _, _, _, hkt, _, hopen⟩ := hl.here
    obtain ⟨kt', hkt', -⟩ := hW.alike.2.2 _ _ hkt
    refine ⟨_, hW.noted hd hopen (State.rightAt_cls hl), fun Q E d acts => ?_⟩
    rw [List.nil_append, xh_row (b := true) hx h0 (hW.classLinks hl) hcell hobj ⟨k0', hk0'⟩ ⟨kt', hkt'⟩ (by rw [hW.alike.assignable]; exact hfit), if_pos rfl]
  | cons y ys ih =>
    intro S hW hcell hpass
    obtain ⟨k0', hk0', -⟩ := hW.alike.2.2 _ _ hk0
    obtain ⟨hy, hy0, k', hl', hno⟩ := hpass y List.mem_cons_self
    obtain ⟨dk, _, _, kt, hd, _, _, _, _, hkt, _, hopen⟩ := hl'.here
    obtain ⟨kt', hkt', -⟩ := hW.alike.2.2 _ _ hkt
    obtain ⟨vm', hW', hq⟩ := ih (S.setVm (S.vm.noted f.method.cls y.catchType (.cls k'))) (hW.noted hd hopen (State.rightAt_cls hl')) hcell (fun z hz => hpass z (List.mem_cons_of_mem _ hz))
    refine ⟨vm', hW', fun Q E d acts => ?_⟩
    rw [List.cons_append, xh_row (b := false) hy hy0 (hW.classLinks hl') hcell hobj ⟨k0', hk0'⟩ ⟨kt', hkt'⟩ (by rw [hW.alike.assignable]; exact hno), if_neg (by decide)]
    exact hq Q E d acts
/-- one step: the note gone, the frame at its handler, the tables warmer -/
theorem xh_step {e : Env} {s : State} {a : Addr} {f : JFrame} {r : List Frame} {pc : Nat} {vm' : Vm} (hfind : ∀ (Q : Handler → Pre) (E : CtlPost) (d : Bool) (acts : List Action), wp (findHandler f a) Q E e d acts s ↔ Q (.found pc) d acts (s.setVm vm')) :
    (stepThrowing e s a (.java f :: r)).Is ((s.setVm vm').setFrames (.java { f with pc := pc, stack := [.ref a] } :: r)) [] := by
  simp only [stepThrowing, searchFrame, vmDo]
  generalize hr : Sem.go _ e false [] s = res
  obtain ⟨as, rfl, ha⟩ := Sem.eq_ok_of hr (a := Handler.found pc) (s' := s.setVm vm') (acts' := []) (by simp [hfind _ _ _ _])
  exact ⟨rfl, ha⟩
theorem xh_into {tb : Tables} {e : Env} {s target : State} {g : JFrame} {c : Code} {below : List Frame} {a : Addr} (h : At s g.method c below) {pc : Nat} {vm' : Vm}
    (hfind : ∀ (Q : Handler → Pre) (E : CtlPost) (d : Bool) (acts : List Action), wp (findHandler g a) Q E e d acts ((s.setTop g).pushFrame (.throwing a)) ↔ Q (.found pc) d acts (((s.setTop g).pushFrame (.throwing a)).setVm vm'))
    (hrest : Steps tb e below ((s.setVm vm').setTop { g with pc := pc, stack := [.ref a] }) target) : Steps tb e below ((s.setTop g).pushFrame (.throwing a)) target := by
  obtain ⟨hgo, hw⟩ := h.throwing a
  refine Steps.head hgo hw ?_
  rw [stepThread_throwing (frames_entered h.top _), (xh_step (s := (s.setTop g).pushFrame (.throwing a)) hfind).1]
  obtain ⟨g₀, hg⟩ := Option.isSome_iff_exists.mp h.top
  obtain ⟨r, hr⟩ := State.topJava?_eq_some.mp hg
  have hr' : (s.setVm vm').frames = .java g₀ :: r := hr
  rw [State.setTop_of_frames _ hr'] at hrest
  rw [State.pushFrame, State.setTop_of_frames _ hr, State.setFrames_setFrames, hr]
  show Steps tb e below (((s.setVm vm').setFrames _).setFrames _) target
  rw [State.setFrames_setFrames]
  exact hrest
/-- the table out of its rows' numbers -/
theorem xh_tab : ∀ {L : List ExceptionTableEntry} {hh : List (Nat × Nat × Nat × Nat)}, L.map (fun h => (h.startPc, h.endPc, h.handlerPc, h.catchType)) = hh → L = hh.map (fun q => ⟨q.1, q.2.1, q.2.2.1, q.2.2.2⟩)
  | [], hh, h => by subst h; rfl
  | x :: L, hh, h => by
    subst h
    have := xh_tab (L := L) rfl
    simp only [List.map_cons]
    rw [← this]
section XHG
variable {p : Program} {l : Launch} {e : Env} {R : Room} {s : State} {m : MethodId} {args : Array Value} {below : List Frame} {meth : Method} {c : Code} {H : Heap} {locs : List Loc} {cells slots : Nat} {Q : State → Prop} {pc : Nat} {ls : Array Slot} {rest : List Value}
/-- caught: by the row x, the rows ahead of it being of other classes -/
theorem xh_catch {own name E : String} {ce : Cell} {q : Addr} (hown : s.vm.findClass own = some m.cls) (pre : List ExceptionTableEntry) (x : ExceptionTableEntry) (suf : List ExceptionTableEntry) (hsplit : c.exceptionTable.toList = pre ++ x :: suf)
    (hpass : ∀ z ∈ pre, covers z pc = true ∧ z.catchType ≠ 0 ∧ ∃ nm : String, (Cond.classLink own z.catchType nm).before args s = true ∧ va_Nc E nm s) (hx : covers x pc = true) (h0 : x.catchType ≠ 0)
    (hlink : (Cond.classLink own x.catchType name).before args s = true) (hcast : (Cond.castable E name).before args s = true) (hcell : H[q]? = some ce) (hv : ce.vm = .none) (hcl : s.vm.findClass E = some ce.cls)
    (kk : W p l e R s m args below meth c H locs cells slots Q (F0 m x.handlerPc ls [.ref q])) : xh_W p l e R s m args below meth c H locs cells slots Q (F0 m pc ls rest) q := by
  intro T hT X
  have hpl : e.platform.magicAccessors = ({} : Platform).magicAccessors := by rw [X.admits.platform]
  obtain ⟨c3, c4, hc3, hc4, hasg⟩ := Cond.castable_spec hcast
  cases Option.some.inj (hc3.symm.trans hcl)
  obtain ⟨c5, hc5, hcl5⟩ := Cond.classLink_spec hown hlink e.platform hpl
  cases Option.some.inj (hc4.symm.trans hc5)
  have hT' : T.heap[q]? = some ce := by rw [hT]; exact hcell
  obtain ⟨vm', hW', hq⟩ := xh_find (e := e) (s₀ := s) (f := F0 m pc ls rest) (a := q) (cell := ce) (fun z h => by rw [hv] at h; cases h) (by obtain ⟨k9, h9, -⟩ := Vm.findClass_spec hcl; exact ⟨k9, h9⟩) (x := x) (suf := suf) hx h0 hcl5 hasg pre ((T.setTop (F0 m pc ls rest)).pushFrame (.throwing q)) X.warmed hT'
    (fun z hz => by
      obtain ⟨z1, z2, nm, z3, a8, b8, y1, y2, y3⟩ := hpass z hz
      obtain ⟨c6, hc6, hcl6⟩ := Cond.classLink_spec hown z3 e.platform hpl
      cases Option.some.inj (y1.symm.trans hcl)
      cases Option.some.inj (y2.symm.trans hc6)
      exact ⟨z1, z2, _, hcl6, y3⟩)
  obtain ⟨t, a1, b1⟩ := kk (T.setVm vm') hT (X.noted hW')
  refine ⟨t, ?_, b1⟩
  refine xh_into (g := F0 m pc ls rest) (pc := x.handlerPc) (vm' := vm') X.here (fun Q E d acts => ?_) a1
  rw [W.findHandler_eq (meth := meth) (code := c) X.method' X.code, hsplit]
  exact hq Q E d acts
end XHG
end
section
/-! ===== pictures: which cell lies at which address; a row an instruction ===== -/
abbrev hv_M : Type := Nat → Option va_E
def hv_up (f : hv_M) (a : Nat) (x : va_E) : hv_M := fun q => if q = a then some x else f q
theorem hv_up_self (f : hv_M) (a : Nat) (x : va_E) : hv_up f a x a = some x := by simp [hv_up]
theorem hv_up_ne (f : hv_M) {a q : Nat} (x : va_E) (h : q ≠ a) : hv_up f a x q = f q := by simp [hv_up, h]
/-- the walk's heap H, begun at H0: the picture f lies in it, at b0 and above; below b0 nothing has changed -/
def hv_I (D : va_G) (cl : List vw_C) (b0 : Nat) (f : hv_M) (H0 H : Heap) (locs : List Loc) : Prop :=
  (∀ (a : Nat) (x : va_E), f a = some x → va_at D cl (a, x) H) ∧ (∀ (a : Nat) (x : va_E), f a = some x → b0 ≤ a) ∧ b0 ≤ H0.size ∧ va_S (fun q => b0 ≤ q) H0 H locs
theorem hv_I.one {D : va_G} {cl : List vw_C} {b0 : Nat} {f : hv_M} {H0 H : Heap} {locs : List Loc} (h : hv_I D cl b0 f H0 H locs) {a : Nat} {x : va_E} (ha : f a = some x) : va_P D cl [(a, x)] H := by
  intro k q hk
  match k, hk with
  | 0, hk => cases hk; exact h.1 a x ha
  | k + 1, hk => simp at hk
theorem hv_I.set {D : va_G} {cl : List vw_C} {b0 : Nat} {f : hv_M} {H0 H H1 : Heap} {locs : List Loc} {a k : Nat} {x0 x : va_E} (h : hv_I D cl b0 f H0 H locs) (ha : f a = some x0) (hx : va_at D cl (a, x) H1) (z : H1.size = H.size) (oq : ∀ q : Nat, q ≠ a → H1[q]? = H[q]?) :
    hv_I D cl b0 (hv_up f a x) H0 H1 (locs ++ [⟨a, k⟩]) := by
  obtain ⟨h1, h2, h3, h4⟩ := h
  refine ⟨fun q y hq => ?_, fun q y hq => ?_, h3, h4.put z oq (h2 a x0 ha)⟩
  · by_cases hqa : q = a
    · subst hqa
      rw [hv_up_self] at hq
      cases hq
      exact hx
    · rw [hv_up_ne _ _ hqa] at hq
      exact (h1 q y hq).kept (oq q hqa)
  · by_cases hqa : q = a
    · subst hqa
      exact h2 _ x0 ha
    · rw [hv_up_ne _ _ hqa] at hq
      exact h2 q y hq
theorem hv_I.push {D : va_G} {cl : List vw_C} {b0 : Nat} {f : hv_M} {H0 H H1 : Heap} {locs : List Loc} {x : va_E} (h : hv_I D cl b0 f H0 H locs) (hx : va_at D cl (H.size, x) H1) (z : H1.size = H.size + 1) (oq : ∀ q : Nat, q < H.size → H1[q]? = H[q]?) :
    hv_I D cl b0 (hv_up f H.size x) H0 H1 locs ∧ f H.size = none := by
  obtain ⟨h1, h2, h3, h4, h5, h6⟩ := h
  have hlt : ∀ (q : Nat) (y : va_E), f q = some y → q < H.size := fun q y hq => (h1 q y hq).lt
  refine ⟨⟨fun q y hq => ?_, fun q y hq => ?_, h3, Nat.le_trans h4 (by omega), fun q hq hn => (oq q (Nat.lt_of_lt_of_le hq h4)).trans (h5 q hq hn), h6⟩, ?_⟩
  · by_cases hqa : q = H.size
    · subst hqa
      rw [hv_up_self] at hq
      cases hq
      exact hx
    · rw [hv_up_ne _ _ hqa] at hq
      exact (h1 q y hq).kept (oq q (hlt q y hq))
  · by_cases hqa : q = H.size
    · subst hqa
      exact Nat.le_trans h3 h4
    · rw [hv_up_ne _ _ hqa] at hq
      exact h2 q y hq
  · cases hf : f H.size with
    | none => rfl
    | some y => exact absurd (hlt _ y hf) (Nat.lt_irrefl _)
/-- what a class's rows need, once for each class -/
def hv_Cl (cl : List vw_C) (Ts : List Cond) (ci : Nat) (C : String) (T : u_T) (N : Nat) (ty : Nat → FieldType) : Prop :=
  cl[ci]? = some (C, T, N) ∧ (∀ w ∈ u_ws C T N, w ∈ Ts) ∧ (∀ k, k < N → parseFieldDescriptor (T k).2.2.1 = some (ty k)) ∧ (∀ a, a < N → ∀ b, b < N → a ≠ b → (T a).2.1 ≠ (T b).2.1)
/-- where a walk goes: the machine, the code, whose it is, the words, the classes -/
def hv_E (p : Program) (c : Code) (cc : ByteArray) (s : State) (m : MethodId) (args : Array Value) (own : String) (Ts : List Cond) (D : va_G) (cl : List vw_C) (tys : List (ClassId × FieldType)) : Prop :=
  p.tables.exec = Jvm.exec ∧ c.code = cc ∧ s.vm.findClass own = some m.cls ∧ (∀ w ∈ Ts, w.before args s = true) ∧ va_K D cl tys s
section HVA
variable {p : Program} {l : Launch} {e : Env} {R : Room} {s : State} {m : MethodId} {args : Array Value} {below : List Frame} {meth : Method} {c : Code} {H : Heap} {locs : List Loc} {cells slots : Nat} {Q : State → Prop}
variable {cc : ByteArray} {pc : Nat} {ls : Array Slot} {rest : List Value} {D : va_G} {cl : List vw_C} {tys : List (ClassId × FieldType)} {Ts : List Cond} {b0 a ci N index : Nat} {f : hv_M} {H0 : Heap} {own host C : String} {T : u_T} {ty : Nat → FieldType} {fs : List Value} {v : Value}
theorem hv_get (hE : hv_E p c cc s m args own Ts D cl tys) (K : hv_Cl cl Ts ci C T N ty) (hI : hv_I D cl b0 f H0 H locs) (k : Nat) (hk : k < N) (hl : Cond.fieldLink own index (T k).1 (T k).2.1 (T k).2.2.1 ∈ Ts) (he : f a = some (.inr (ci, fs))) (hv : fs[k]? = some v) (hd : decode cc pc = .ok (.getfield index, 3))
    (kk : W p l e R s m args below meth c H locs cells slots Q (F0 m (pc + 3) ls (v :: rest))) : W p l e R s m args below meth c H locs cells slots Q (F0 m pc ls (.ref a :: rest)) :=
  va_get (D := D) (v := v) hE.1 hE.2.1 hE.2.2.2.1 K.2.1 hE.2.2.1 hE.2.2.2.2 (hI.one he) 0 rfl K.1 k hk (hE.2.2.2.1 _ hl) (fun _ h9 => h9) hv hd kk
theorem hv_getN (hE : hv_E p c cc s m args own Ts D cl tys) (K : hv_Cl cl Ts ci C T N ty) (hI : hv_I D cl b0 f H0 H locs) (k : Nat) (hk : k < N) (hl : Cond.fieldLinkNest own index (T k).1 (T k).2.1 (T k).2.2.1 host ∈ Ts) (he : f a = some (.inr (ci, fs))) (hv : fs[k]? = some v) (hd : decode cc pc = .ok (.getfield index, 3))
    (kk : W p l e R s m args below meth c H locs cells slots Q (F0 m (pc + 3) ls (v :: rest))) : W p l e R s m args below meth c H locs cells slots Q (F0 m pc ls (.ref a :: rest)) :=
  va_getN (D := D) (v := v) hE.1 hE.2.1 hE.2.2.2.1 K.2.1 hE.2.2.1 hE.2.2.2.2 (hI.one he) 0 rfl K.1 k hk (hE.2.2.2.1 _ hl) (fun _ h9 => h9) hv hd kk
theorem hv_put (hE : hv_E p c cc s m args own Ts D cl tys) (K : hv_Cl cl Ts ci C T N ty) (hI : hv_I D cl b0 f H0 H locs) (k : Nat) (hk : k < N) (hl : Cond.fieldLink own index (T k).1 (T k).2.1 (T k).2.2.1 ∈ Ts) (he : f a = some (.inr (ci, fs))) (hfin : (T k).2.2.2 = false) (hn : narrow (ty k) v = v) (hfit : fits (ty k) v = true) (hlen : k < fs.length) (hd : decode cc pc = .ok (.putfield index, 3))
    (kk : ∀ (H1 : Heap) (locs1 : List Loc), hv_I D cl b0 (hv_up f a (.inr (ci, fs.set k v))) H0 H1 locs1 → W p l e R s m args below meth c H1 locs1 cells slots Q (F0 m (pc + 3) ls rest)) : W p l e R s m args below meth c H locs cells slots Q (F0 m pc ls (v :: .ref a :: rest)) := by
  obtain ⟨hx, hb, hown, hts, hK⟩ := hE
  obtain ⟨hc, hin, hty, hnm⟩ := K
  have hap := va_apart (own := own) hts hin ty hty hnm hK hc
  obtain ⟨r, h1, cell, q1, q2, q3, q4⟩ := hI.1 a _ he
  have hr : r = (C, T, N) := Option.some.inj (h1.symm.trans hc)
  subst hr
  obtain ⟨hS, hfc, kC, hkC, hkind⟩ := hK.1 ci _ hc
  obtain ⟨cf, kf, fi, fd, hi, hsl⟩ := hS k hk
  have hlay := hts _ (hin _ (u_in_lay hk))
  unfold u_lay at hlay
  rw [if_neg (by rw [hfin]; decide)] at hlay
  refine W.putK hx hb (f := fd) ⟨hown, hts _ hl, ⟨_, _, _, hi⟩, (u_facts hfc hkC (u_lays hts hin hk) hi).1⟩ (by rw [q2]; exact u_store hfc hkC hkind hlay hi (hty k hk) hn hfit) q1 q3 (by rw [hsl]; exact k2_hasslot (q4 k hk)) rfl rfl hd fun H1 e1 e2 e3 => ?_
  rw [hsl] at e1 ⊢
  exact kk H1 _ (hI.set he ⟨_, hc, t_OB.to (V := updV (vp_V fs) k v) ⟨_, e1, q2, q3, t_set q4 hap hk v⟩ (fun j _ => vp_updV_set hlen v j)⟩ e2 e3)
theorem hv_putF (hE : hv_E p c cc s m args own Ts D cl tys) (K : hv_Cl cl Ts ci C T N ty) (hI : hv_I D cl b0 f H0 H locs) (hin2 : meth.name = "<init>") (k : Nat) (hk : k < N) (hl : Cond.fieldLink own index (T k).1 (T k).2.1 (T k).2.2.1 ∈ Ts) (he : f a = some (.inr (ci, fs))) (hfin : (T k).2.2.2 = true) (hdecl : (T k).1 = own) (hn : narrow (ty k) v = v) (hfit : fits (ty k) v = true) (hlen : k < fs.length) (hd : decode cc pc = .ok (.putfield index, 3))
    (kk : ∀ (H1 : Heap) (locs1 : List Loc), hv_I D cl b0 (hv_up f a (.inr (ci, fs.set k v))) H0 H1 locs1 → W p l e R s m args below meth c H1 locs1 cells slots Q (F0 m (pc + 3) ls rest)) : W p l e R s m args below meth c H locs cells slots Q (F0 m pc ls (v :: .ref a :: rest)) := by
  obtain ⟨hx, hb, hown, hts, hK⟩ := hE
  obtain ⟨hc, hin, hty, hnm⟩ := K
  have hap := va_apart (own := own) hts hin ty hty hnm hK hc
  obtain ⟨r, h1, cell, q1, q2, q3, q4⟩ := hI.1 a _ he
  have hr : r = (C, T, N) := Option.some.inj (h1.symm.trans hc)
  subst hr
  obtain ⟨hS, hfc, kC, hkC, hkind⟩ := hK.1 ci _ hc
  obtain ⟨cf, kf, fi, fd, hi, hsl⟩ := hS k hk
  have hlay := hts _ (hin _ (u_in_lay hk))
  unfold u_lay at hlay
  rw [if_pos hfin] at hlay
  have hcf : m.cls = cf := by
    obtain ⟨_, _, c', _, _, _, -, -, hf', -, -, -, hown2, -⟩ := Cond.laysFinal_spec hlay
    have e1 : c' = cf := by have := hi.symm.trans hf'; simp at this; exact this.1.symm
    rw [hdecl] at hown2
    rw [← e1]; exact Option.some.inj (hown.symm.trans hown2)
  refine W.putFinK hx hb hown (hts _ hl) hi (u_facts hfc hkC (u_lays hts hin hk) hi).1 hcf hin2 (by rw [q2]; exact u_fits hfc hkC hkind (Or.inr hlay) hi (hty k hk) hn hfit) q1 q3 (by rw [hsl]; exact k2_hasslot (q4 k hk)) rfl rfl hd fun H1 e1 e2 e3 => ?_
  rw [hsl] at e1 ⊢
  exact kk H1 _ (hI.set he ⟨_, hc, t_OB.to (V := updV (vp_V fs) k v) ⟨_, e1, q2, q3, t_set q4 hap hk v⟩ (fun j _ => vp_updV_set hlen v j)⟩ e2 e3)
theorem hv_new (hE : hv_E p c cc s m args own Ts D cl tys) (K : hv_Cl cl Ts ci C T N ty) (hI : hv_I D cl b0 f H0 H locs) (hl : Cond.classLink own index C ∈ Ts) (hi : Cond.instantiable C N ∈ Ts) (hini : Cond.initialized C ∈ Ts) (hfs : ∀ j, j < N → defaultValue (ty j) = vp_V fs j) (hcells : cells + 1 ≤ R.cells) (hslots : slots + N ≤ R.slots) (hd : decode cc pc = .ok (.new index, 3))
    (kk : ∀ (q : Nat) (H1 : Heap), f q = none → hv_I D cl b0 (hv_up f q (.inr (ci, fs))) H0 H1 locs → W p l e R s m args below meth c H1 locs (cells + 1) (slots + N) Q (F0 m (pc + 3) ls (.ref q :: rest))) : W p l e R s m args below meth c H locs cells slots Q (F0 m pc ls rest) := by
  obtain ⟨hx, hb, hown, hts, hK⟩ := hE
  obtain ⟨hc, hin, hty, hnm⟩ := K
  have hKn := hK.1 ci _ hc
  refine W.newcK hx hb hown (hts _ hl) (hts _ hi) (hts _ hini) rfl hd hcells hslots hKn.2.1 rfl fun H1 kC hkC e1 z1 o1 => ?_
  obtain ⟨hI1, hn⟩ := hI.push (x := .inr (ci, fs)) ⟨_, hc, (u_born ty hts hin hKn hkC e1 hty).to hfs⟩ z1 o1
  exact kk _ H1 hn hI1
variable {n t0 : Nat} {cA : ClassId} {i : Int32}
theorem hv_alen (hE : hv_E p c cc s m args own Ts D cl tys) (hI : hv_I D cl b0 f H0 H locs) (t0 : Nat) {x : vp_A} (he : f a = some (.inl (cA, x))) {t : FieldType} (ht : tys[t0]? = some (cA, t)) {z : Int32} (hz : Int32.ofNat x.1 = z) (hd : decode cc pc = .ok (.arraylength, 1))
    (kk : W p l e R s m args below meth c H locs cells slots Q (F0 m (pc + 1) ls (.int z :: rest))) : W p l e R s m args below meth c H locs cells slots Q (F0 m pc ls (.ref a :: rest)) :=
  va_alen (D := D) hE.1 hE.2.1 hE.2.2.2.2 (hI.one he) 0 t0 rfl ht hz hd kk
theorem hv_iald (hE : hv_E p c cc s m args own Ts D cl tys) (hI : hv_I D cl b0 f H0 H locs) (t0 : Nat) {g : Nat → Int32} (he : f a = some (.inl (cA, n, .inl g))) (ht : tys[t0]? = some (cA, .int)) (hin : vp_in i n) (hd : decode cc pc = .ok (.iaload, 1))
    (kk : W p l e R s m args below meth c H locs cells slots Q (F0 m (pc + 1) ls (.int (g i.toNatClampNeg) :: rest))) : W p l e R s m args below meth c H locs cells slots Q (F0 m pc ls (.int i :: .ref a :: rest)) :=
  va_iald (D := D) hE.1 hE.2.1 hE.2.2.2.2 (hI.one he) 0 t0 rfl ht hin hd kk
theorem hv_lald (hE : hv_E p c cc s m args own Ts D cl tys) (hI : hv_I D cl b0 f H0 H locs) (t0 : Nat) {g : Nat → Int64} (he : f a = some (.inl (cA, n, .inr (.inl g)))) (ht : tys[t0]? = some (cA, .long)) (hin : vp_in i n) (hd : decode cc pc = .ok (.laload, 1))
    (kk : W p l e R s m args below meth c H locs cells slots Q (F0 m (pc + 1) ls (.long (g i.toNatClampNeg) :: rest))) : W p l e R s m args below meth c H locs cells slots Q (F0 m pc ls (.int i :: .ref a :: rest)) :=
  va_lald (D := D) hE.1 hE.2.1 hE.2.2.2.2 (hI.one he) 0 t0 rfl ht hin hd kk
theorem hv_aald (hE : hv_E p c cc s m args own Ts D cl tys) (hI : hv_I D cl b0 f H0 H locs) (t0 : Nat) {B : String} {g : Nat → Option Nat} (he : f a = some (.inl (cA, n, .inr (.inr (.inr (.inr g)))))) (ht : tys[t0]? = some (cA, .object B)) (hin : vp_in i n) (hd : decode cc pc = .ok (.aaload, 1))
    (kk : W p l e R s m args below meth c H locs cells slots Q (F0 m (pc + 1) ls (va_rf (g i.toNatClampNeg) :: rest))) : W p l e R s m args below meth c H locs cells slots Q (F0 m pc ls (.int i :: .ref a :: rest)) :=
  va_aldq (D := D) hE.1 hE.2.1 hE.2.2.2.2 (hI.one he) 0 t0 rfl ht hin hd kk
theorem hv_iast (hE : hv_E p c cc s m args own Ts D cl tys) (hI : hv_I D cl b0 f H0 H locs) (t0 : Nat) {g : Nat → Int32} {x : Int32} (he : f a = some (.inl (cA, n, .inl g))) (ht : tys[t0]? = some (cA, .int)) (hin : vp_in i n) (hd : decode cc pc = .ok (.iastore, 1))
    (kk : ∀ (H1 : Heap) (locs1 : List Loc), hv_I D cl b0 (hv_up f a (.inl (cA, n, .inl (upd g i.toNatClampNeg x)))) H0 H1 locs1 → W p l e R s m args below meth c H1 locs1 cells slots Q (F0 m (pc + 1) ls rest)) : W p l e R s m args below meth c H locs cells slots Q (F0 m pc ls (.int x :: .int i :: .ref a :: rest)) := by
  obtain ⟨hx, hb, hown, hts, hK⟩ := hE
  refine W.iast hx hb (hI.1 a _ he) ((hK.2 t0 _ ht).1 n (fun j => .int (g j))) (fun q => by cases q) (by show ¬ (i < 0 ∨ (arrV _ _ _).slots.size ≤ _); rw [arrV_size]; exact hin) rfl rfl hd fun H1 e1 z oq => ?_
  refine kk H1 _ (hI.set he ?_ z oq)
  show H1[a]? = some (vp_cell _ _)
  rw [e1, vp_cell_i, vp_cell_i, arrV_store]
  congr 2
  funext q
  by_cases hq : q = i.toNatClampNeg
  · subst hq
    simp [updV, upd]
  · simp [updV, upd, hq]
theorem hv_last (hE : hv_E p c cc s m args own Ts D cl tys) (hI : hv_I D cl b0 f H0 H locs) (t0 : Nat) {g : Nat → Int64} {x : Int64} (he : f a = some (.inl (cA, n, .inr (.inl g)))) (ht : tys[t0]? = some (cA, .long)) (hin : vp_in i n) (hd : decode cc pc = .ok (.lastore, 1))
    (kk : ∀ (H1 : Heap) (locs1 : List Loc), hv_I D cl b0 (hv_up f a (.inl (cA, n, .inr (.inl (vp_updL g i.toNatClampNeg x))))) H0 H1 locs1 → W p l e R s m args below meth c H1 locs1 cells slots Q (F0 m (pc + 1) ls rest)) : W p l e R s m args below meth c H locs cells slots Q (F0 m pc ls (.long x :: .int i :: .ref a :: rest)) := by
  obtain ⟨hx, hb, hown, hts, hK⟩ := hE
  refine W.last hx hb (hI.1 a _ he) ((hK.2 t0 _ ht).1 n (fun j => .long (g j))) (fun q => by cases q) (by show ¬ (i < 0 ∨ (arrV _ _ _).slots.size ≤ _); rw [arrV_size]; exact hin) rfl rfl hd fun H1 e1 z oq => ?_
  refine kk H1 _ (hI.set he ?_ z oq)
  show H1[a]? = some (vp_cell _ _)
  rw [e1, vp_cell_l, vp_cell_l, arrV_store]
  congr 2
  funext q
  by_cases hq : q = i.toNatClampNeg
  · subst hq
    simp [updV, vp_updL]
  · simp [updV, vp_updL, hq]
/-- a reference into an array of B's: the object's class C can be taken for a B -/
theorem hv_aast (hE : hv_E p c cc s m args own Ts D cl tys) (hI : hv_I D cl b0 f H0 H locs) (t0 : Nat) {B : String} {g : Nat → Option Nat} {v0 : Nat} {vs : List Value} {r : vw_C} (he : f a = some (.inl (cA, n, .inr (.inr (.inr (.inr g)))))) (ht : tys[t0]? = some (cA, .object B)) (hv : f v0 = some (.inr (ci, vs))) (hc : cl[ci]? = some r) (hca : Cond.castable r.1 B ∈ Ts) (hin : vp_in i n) (hd : decode cc pc = .ok (.aastore, 1))
    (kk : ∀ (H1 : Heap) (locs1 : List Loc), hv_I D cl b0 (hv_up f a (.inl (cA, n, .inr (.inr (.inr (.inr (va_up g i.toNatClampNeg (some v0)))))))) H0 H1 locs1 → W p l e R s m args below meth c H1 locs1 cells slots Q (F0 m (pc + 1) ls rest)) : W p l e R s m args below meth c H locs cells slots Q (F0 m pc ls (.ref v0 :: .int i :: .ref a :: rest)) := by
  obtain ⟨hx, hb, hown, hts, hK⟩ := hE
  have hlt : i.toNatClampNeg < n := Nat.not_le.mp fun q => hin (Or.inr q)
  have h0 : ¬ i < 0 := fun q => hin (Or.inl q)
  obtain ⟨r', hr', cellV, g1, g2, g3, -⟩ := hI.1 v0 _ hv
  cases hc.symm.trans hr'
  have hcls := (hK.1 ci r hc).2.1
  obtain ⟨kA, comp, k1, k2, k3, -⟩ := (hK.2 t0 _ ht).2
  obtain ⟨kE, hkE, -⟩ := Vm.findClass_spec k3
  obtain ⟨kC, hkC, -⟩ := Vm.findClass_spec hcls
  obtain ⟨x1, x2, f1, f2, f3⟩ := Cond.castable_spec (hts _ hca)
  cases hcls.symm.trans f1
  cases k3.symm.trans f2
  refine W.aast hx hb (hI.1 a _ he) (fun q h => by cases h) (fun h => by cases h) k1 k2 rfl hkE ⟨h0, by show _ < (arrV _ _ _).slots.size; rw [arrV_size]; exact hlt⟩ g1 (fun q h => by rw [g3] at h; cases h) (by rw [g2]; exact hkC) (by rw [g2]; exact f3) rfl rfl hd fun H1 e1 z oq => ?_
  refine kk H1 _ (hI.set he ?_ z oq)
  show H1[a]? = some (vp_cell _ _)
  rw [e1, vp_cell_q, vp_cell_q, arrV_store]
  congr 2
  funext q
  by_cases hq : q = i.toNatClampNeg
  · subst hq
    simp [updV, va_up, va_rf]
  · simp [updV, va_up, hq]
theorem hv_newI (hE : hv_E p c cc s m args own Ts D cl tys) (hI : hv_I D cl b0 f H0 H locs) (t0 : Nat) (ht : tys[t0]? = some (cA, .int)) (hw : Cond.arrayClass .int ∈ Ts) {z : Int32} (hn : ¬ z < 0) (hz : z.toNatClampNeg = n) (hbytes : n * 4 ≤ 536870912) (hcells : cells + 1 ≤ R.cells) (hslots : slots + n ≤ R.slots) (hd : decode cc pc = .ok (.newarray .int, 2))
    (kk : ∀ (q : Nat) (H1 : Heap), f q = none → hv_I D cl b0 (hv_up f q (.inl (cA, n, .inl (fun _ => 0)))) H0 H1 locs → W p l e R s m args below meth c H1 locs (cells + 1) (slots + n) Q (F0 m (pc + 2) ls (.ref q :: rest))) : W p l e R s m args below meth c H locs cells slots Q (F0 m pc ls (.int z :: rest)) := by
  obtain ⟨hx, hb, hown, hts, hK⟩ := hE
  refine va_newaK (atype := .int) hx hb (hts _ hw) rfl hd rfl hn hz hbytes hcells hslots rfl fun H1 cB e1 z1 o1 hAr hNm => ?_
  have hcB : cB = cA := Option.some.inj (hNm.symm.trans (hK.2 t0 _ ht).2)
  subst hcB
  obtain ⟨hI1, hn1⟩ := hI.push (x := .inl (cB, n, .inl (fun _ => 0))) (by show H1[H.size]? = some (vp_cell _ _); rw [e1]; rfl) z1 o1
  exact kk _ H1 hn1 hI1
theorem hv_newL (hE : hv_E p c cc s m args own Ts D cl tys) (hI : hv_I D cl b0 f H0 H locs) (t0 : Nat) (ht : tys[t0]? = some (cA, .long)) (hw : Cond.arrayClass .long ∈ Ts) {z : Int32} (hn : ¬ z < 0) (hz : z.toNatClampNeg = n) (hbytes : n * 8 ≤ 536870912) (hcells : cells + 1 ≤ R.cells) (hslots : slots + n ≤ R.slots) (hd : decode cc pc = .ok (.newarray .long, 2))
    (kk : ∀ (q : Nat) (H1 : Heap), f q = none → hv_I D cl b0 (hv_up f q (.inl (cA, n, .inr (.inl (fun _ => 0))))) H0 H1 locs → W p l e R s m args below meth c H1 locs (cells + 1) (slots + n) Q (F0 m (pc + 2) ls (.ref q :: rest))) : W p l e R s m args below meth c H locs cells slots Q (F0 m pc ls (.int z :: rest)) := by
  obtain ⟨hx, hb, hown, hts, hK⟩ := hE
  refine va_newaK (atype := .long) hx hb (hts _ hw) rfl hd rfl hn hz hbytes hcells hslots rfl fun H1 cB e1 z1 o1 hAr hNm => ?_
  have hcB : cB = cA := Option.some.inj (hNm.symm.trans (hK.2 t0 _ ht).2)
  subst hcB
  obtain ⟨hI1, hn1⟩ := hI.push (x := .inl (cB, n, .inr (.inl (fun _ => 0)))) (by show H1[H.size]? = some (vp_cell _ _); rw [e1]; rfl) z1 o1
  exact kk _ H1 hn1 hI1
theorem hv_newQ (hE : hv_E p c cc s m args own Ts D cl tys) (hI : hv_I D cl b0 f H0 H locs) (t0 : Nat) {B : String} (ht : tys[t0]? = some (cA, .object B)) (hl : Cond.classLink own index B ∈ Ts) (hw : Cond.arrayOver (.object B) ∈ Ts) {z : Int32} (hn : ¬ z < 0) (hz : z.toNatClampNeg = n) (hbytes : n * 4 ≤ 536870912) (hcells : cells + 1 ≤ R.cells) (hslots : slots + n ≤ R.slots) (hd : decode cc pc = .ok (.anewarray index, 3))
    (kk : ∀ (q : Nat) (H1 : Heap), f q = none → hv_I D cl b0 (hv_up f q (.inl (cA, n, .inr (.inr (.inr (.inr (fun _ => none))))))) H0 H1 locs → W p l e R s m args below meth c H1 locs (cells + 1) (slots + n) Q (F0 m (pc + 3) ls (.ref q :: rest))) : W p l e R s m args below meth c H locs cells slots Q (F0 m pc ls (.int z :: rest)) := by
  obtain ⟨hx, hb, hown, hts, hK⟩ := hE
  subst hz
  refine W.anew hx hb hown (hts _ hl) (hts _ hw) rfl hd rfl hn hbytes hcells hslots fun cB kA comp f1 f2 f3 f4 => ?_
  obtain ⟨kA', comp', k1, k2, k3, k4⟩ := (hK.2 t0 _ ht).2
  have hcB : cB = cA := Option.some.inj (f1.symm.trans k4)
  subst hcB
  generalize hH1 : H.push ({ cls := cB, slots := Array.replicate z.toNatClampNeg .null, vm := .none } : Cell) = H1
  have z1 : H1.size = H.size + 1 := by rw [← hH1, Array.size_push]
  have e1 : H1[H.size]? = some (arrV cB z.toNatClampNeg (fun _ => .null)) := by rw [← hH1, Array.getElem?_push_size, ← arrV_new]
  have o1 : ∀ q : Nat, q < H.size → H1[q]? = H[q]? := fun q hq => by rw [← hH1, Array.getElem?_push, if_neg (Nat.ne_of_lt hq)]
  obtain ⟨hI1, hn1⟩ := hI.push (x := .inl (cB, z.toNatClampNeg, .inr (.inr (.inr (.inr (fun _ => none)))))) (by show H1[H.size]? = some (vp_cell _ _); rw [vp_cell_q]; exact e1) z1 o1
  exact kk _ H1 hn1 hI1
/-- an object of the picture, as a receiver -/
theorem hv_recv (hE : hv_E p c cc s m args own Ts D cl tys) (hI : hv_I D cl b0 f H0 H locs) {r : vw_C} (he : f a = some (.inr (ci, fs))) (hc : cl[ci]? = some r) : ∃ cell : Cell, H[a]? = some cell ∧ cell.vm.isStatics = false ∧ s.vm.findClass r.1 = some cell.cls :=
  va_recv hE.2.2.2.2 (hI.one he) hc (q0 := 0) rfl
end HVA
end
section
/-! ===== contracts over pictures ===== -/
/-- Fa holds here, and wherever the tables are warmer and the cells below b0 the same -/
def hv_KK (b0 : Nat) (Fa : State → Prop) (U : State) : Prop := ∀ V : State, U.WarmedH V.vm → (∀ q : Nat, q < b0 → V.heap[q]? = U.heap[q]?) → Fa V
theorem hv_KK.go {b0 : Nat} {Fa : State → Prop} {s t : State} (h : hv_KK b0 Fa s) (hW : s.WarmedH t.vm) (hq : ∀ q : Nat, q < b0 → t.heap[q]? = s.heap[q]?) : hv_KK b0 Fa t :=
  fun V h1 h2 => h V (State.WarmedH.trans hW h1) (fun q hq9 => (h2 q hq9).trans (hq q hq9))
theorem hv_KK.here {b0 : Nat} {Fa : State → Prop} {s : State} (h : hv_KK b0 Fa s) : Fa s := h s (State.WarmedH.refl s) (fun _ _ => rfl)
/-- a state that a method may be called in -/
def hv_U (b0 : Nat) (Fa : State → Prop) (D : va_G) (cl : List vw_C) (f : hv_M) (U : State) : Prop :=
  (∀ (a : Nat) (x : va_E), f a = some x → va_at D cl (a, x) U.heap) ∧ (∀ (a : Nat) (x : va_E), f a = some x → b0 ≤ a) ∧ b0 ≤ U.heap.size ∧ hv_KK b0 Fa U
def hv_Pc (b0 : Nat) (Fa : State → Prop) (D : va_G) (cl : List vw_C) (As : List Value) (f : hv_M) : Array Value → State → Prop := fun v U => v = As.toArray ∧ hv_U b0 Fa D cl f U
/-- how it ends: it returns v, the picture being g, with post; or it throws an E, with thr -/
def hv_Q (b0 : Nat) (Fa : State → Prop) (D : va_G) (cl : List vw_C) (post : Option Value → hv_M → Prop) (thr : String → hv_M → Prop) : State → Outcome → State → Prop := fun st o t =>
  ((∃ (v : Option Value) (g : hv_M), o = .returned v ∧ post v g ∧ hv_U b0 Fa D cl g t) ∨ ∃ (q : Addr) (E : String) (ce : Cell) (g : hv_M), o = .threw q ∧ thr E g ∧ hv_U b0 Fa D cl g t ∧ t.heap[q]? = some ce ∧ ce.vm = .none ∧ st.vm.findClass E = some ce.cls) ∧
    st.heap.size ≤ t.heap.size ∧ ∀ q : Nat, q < b0 → t.heap[q]? = st.heap[q]?
def hv_Met (l : Launch) (y : MethodName) (ws : List Cond) (rm : Room) (b0 : Nat) (Fa : State → Prop) (D : va_G) (cl : List vw_C) (As : List Value) (f : hv_M) (post : Option Value → hv_M → Prop) (thr : String → hv_M → Prop) : Prop :=
  xh_Met l y ws rm (hv_Pc b0 Fa D cl As f) (hv_Q b0 Fa D cl post thr) (fun q => b0 ≤ q)
theorem hv_blind {b0 : Nat} {Fa : State → Prop} {D : va_G} {cl : List vw_C} {As : List Value} {f : hv_M} : FrameBlind (hv_Pc b0 Fa D cl As f) := fun a U g mk h => ⟨h.1, h.2.1, h.2.2.1, h.2.2.2.1, fun V h1 h2 => h.2.2.2.2 V h1 h2⟩
theorem hv_U.start {b0 : Nat} {Fa : State → Prop} {D : va_G} {cl : List vw_C} {f : hv_M} {s : State} (h : hv_U b0 Fa D cl f s) : hv_I D cl b0 f s.heap s.heap [] := ⟨h.1, h.2.1, h.2.2.1, va_S.rf⟩
theorem hv_I.below {D : va_G} {cl : List vw_C} {b0 : Nat} {f : hv_M} {H0 H : Heap} {locs : List Loc} (h : hv_I D cl b0 f H0 H locs) : ∀ q : Nat, q < b0 → H[q]? = H0[q]? := fun q hq => h.2.2.2.2.1 q (Nat.lt_of_lt_of_le hq h.2.2.1) (Nat.not_le.mpr hq)
theorem hv_I.U {D : va_G} {cl : List vw_C} {b0 : Nat} {Fa : State → Prop} {f : hv_M} {s t : State} {H : Heap} {locs : List Loc} (h : hv_I D cl b0 f s.heap H locs) (hK : hv_KK b0 Fa s) (ht : t.heap = H) (hW : s.WarmedH t.vm) : hv_U b0 Fa D cl f t :=
  ⟨fun a x ha => by rw [ht]; exact h.1 a x ha, h.2.1, by rw [ht]; exact Nat.le_trans h.2.2.1 h.2.2.2.1, hK.go hW (fun q hq => by rw [ht]; exact h.below q hq)⟩
theorem hv_I.ret {D : va_G} {cl : List vw_C} {b0 : Nat} {Fa : State → Prop} {f : hv_M} {s t : State} {H : Heap} {locs : List Loc} {post : Option Value → hv_M → Prop} {thr : String → hv_M → Prop} {v : Option Value} (h : hv_I D cl b0 f s.heap H locs) (hK : hv_KK b0 Fa s) (hp : post v f) (ht : t.heap = H) (hW : s.WarmedH t.vm) : hv_Q b0 Fa D cl post thr s (.returned v) t :=
  ⟨Or.inl ⟨v, f, rfl, hp, h.U hK ht hW⟩, by rw [ht]; exact h.2.2.2.1, fun q hq => by rw [ht]; exact h.below q hq⟩
section HVB
variable {p : Program} {l : Launch} {e : Env} {R : Room} {s : State} {m : MethodId} {args : Array Value} {below : List Frame} {meth : Method} {c : Code} {H : Heap} {locs : List Loc} {cells slots : Nat} {Q : State → Prop}
variable {cc : ByteArray} {pc : Nat} {ls : Array Slot} {rest st0 : List Value} {D : va_G} {cl : List vw_C} {b0 mc ms : Nat} {Fa : State → Prop} {f : hv_M} {post : Option Value → hv_M → Prop} {thr : String → hv_M → Prop} {own : String} {Ts : List Cond} {tys : List (ClassId × FieldType)}
theorem hv_iret (hE : hv_E p c cc s m args own Ts D cl tys) (hr : meth.sig.returnType = some .int) (hlocks : meth.locks = false) (hI : hv_I D cl b0 f s.heap H locs) (hK : hv_KK b0 Fa s) {v : Int32} (hp : post (some (.int v)) f) (hc : cells ≤ mc) (hs : slots ≤ ms) (hd : decode cc pc = .ok (.ireturn, 1)) :
    W p l e R s m args below meth c H locs cells slots (xh_MQ below (hv_Q b0 Fa D cl post thr) s mc ms (fun q => b0 ≤ q)) (F0 m pc ls [.int v]) :=
  xh_ret hc hs (W.iret hE.1 hE.2.1 hr (fun t ht hW => hI.ret hK hp ht hW) hI.2.2.2.2.2 hd hlocks)
theorem hv_zret (hE : hv_E p c cc s m args own Ts D cl tys) (hr : meth.sig.returnType = some .boolean) (hlocks : meth.locks = false) (hI : hv_I D cl b0 f s.heap H locs) (hK : hv_KK b0 Fa s) {v : Int32} (hn : narrow .boolean (.int v) = .int v) (hp : post (some (.int v)) f) (hc : cells ≤ mc) (hs : slots ≤ ms) (hd : decode cc pc = .ok (.ireturn, 1)) :
    W p l e R s m args below meth c H locs cells slots (xh_MQ below (hv_Q b0 Fa D cl post thr) s mc ms (fun q => b0 ≤ q)) (F0 m pc ls [.int v]) :=
  xh_ret hc hs (W.zret hE.1 hE.2.1 hr hn (fun t ht hW => hI.ret hK hp ht hW) hI.2.2.2.2.2 hd hlocks)
theorem hv_vret (hE : hv_E p c cc s m args own Ts D cl tys) (hr : meth.sig.returnType = none) (hlocks : meth.locks = false) (hI : hv_I D cl b0 f s.heap H locs) (hK : hv_KK b0 Fa s) (hp : post none f) (hc : cells ≤ mc) (hs : slots ≤ ms) (hd : decode cc pc = .ok (.return_, 1)) :
    W p l e R s m args below meth c H locs cells slots (xh_MQ below (hv_Q b0 Fa D cl post thr) s mc ms (fun q => b0 ≤ q)) (F0 m pc ls []) :=
  xh_ret hc hs (W.vret hE.1 hE.2.1 hr (fun t ht hW => hI.ret hK hp ht hW) hI.2.2.2.2.2 hd hlocks)
theorem hv_aret (hE : hv_E p c cc s m args own Ts D cl tys) {rt : FieldType} (hr : meth.sig.returnType = some rt) (hrt : (∃ n, rt = .object n) ∨ ∃ t, rt = .array t) (hlocks : meth.locks = false) (hI : hv_I D cl b0 f s.heap H locs) (hK : hv_KK b0 Fa s) {v : Value} (hv : v = .null ∨ ∃ a, v = .ref a) (hp : post (some v) f) (hc : cells ≤ mc) (hs : slots ≤ ms) (hd : decode cc pc = .ok (.areturn, 1)) :
    W p l e R s m args below meth c H locs cells slots (xh_MQ below (hv_Q b0 Fa D cl post thr) s mc ms (fun q => b0 ≤ q)) (F0 m pc ls [v]) :=
  xh_ret hc hs (W.aret hE.1 hE.2.1 hr hrt hv (fun t ht hW => hI.ret hK hp ht hW) hI.2.2.2.2.2 hd hlocks)
theorem hv_lret (hE : hv_E p c cc s m args own Ts D cl tys) (hr : meth.sig.returnType = some .long) (hlocks : meth.locks = false) (hI : hv_I D cl b0 f s.heap H locs) (hK : hv_KK b0 Fa s) {v : Int64} (hp : post (some (.long v)) f) (hc : cells ≤ mc) (hs : slots ≤ ms) (hd : decode cc pc = .ok (.lreturn, 1)) :
    W p l e R s m args below meth c H locs cells slots (xh_MQ below (hv_Q b0 Fa D cl post thr) s mc ms (fun q => b0 ≤ q)) (F0 m pc ls [.long v]) :=
  xh_ret hc hs (W.lret hE.1 hE.2.1 hr (fun t ht hW => hI.ret hK hp ht hW) hI.2.2.2.2.2 hd hlocks)
/-- what was thrown in a callee leaves this method too -/
theorem hv_out (hout : c.exceptionTable.toList = []) (hlocks : meth.locks = false) (hI : hv_I D cl b0 f s.heap H locs) (hK : hv_KK b0 Fa s) {q : Addr} {E : String} {ce : Cell} (hce : H[q]? = some ce) (hv : ce.vm = .none) (hcl : s.vm.findClass E = some ce.cls) (hp : thr E f) (hc : cells ≤ mc) (hs : slots ≤ ms) :
    xh_W p l e R s m args below meth c H locs cells slots (xh_MQ below (hv_Q b0 Fa D cl post thr) s mc ms (fun q => b0 ≤ q)) (F0 m pc ls rest) q :=
  xh_out hout hlocks (fun t ht hW => ⟨Or.inr ⟨q, E, ce, f, rfl, hp, hI.U hK ht hW, by rw [ht]; exact hce, hv, hcl⟩, by rw [ht]; exact hI.2.2.2.1, fun q hq => by rw [ht]; exact hI.below q hq⟩) hI.2.2.2.2.2 hc hs
/-- throw new E("text") -/
theorem hv_throw (hE : hv_E p c cc s m args own Ts D cl tys) (hl : l.stackTraces = false) {cls text : String} {names : List String} {ik is ic : Nat} (hcls : Bundle.fit cls = true) (hnames : ∀ n ∈ names, Bundle.fit n = true) (hI : hv_I D cl b0 f s.heap H locs) (hK : hv_KK b0 Fa s)
    (hF : ∀ U : State, Fa U → (∀ (A : Array Value) (w : Cond), w ∈ Cond.classLink own ik cls :: Cond.initialized cls :: Bundle.ownAtoms own ic cls names → w.before A U = true) ∧ ∃ sa : Nat, vk_R own is text sa U) (hsize : ls.size = c.maxLocals)
    (d0 : decode cc pc = .ok (.new ik, 3)) (d3 : decode cc (pc + 3) = .ok (.dup, 1)) (d4 : decode cc (pc + 4) = .ok (.ldc is, 2)) (d6 : decode cc (pc + 6) = .ok (.invokespecial ic, 3)) (d9 : decode cc (pc + 9) = .ok (.athrow, 1))
    (hout : c.exceptionTable.toList = []) (hRf : names.length + 3 < R.frames) (hRl : (rest.map fun v => v.category).sum + (13 * (names.length + 1) + 43) ≤ R.locals) (hlocks : meth.locks = false) (hp : thr cls f) (hc : cells + 1 ≤ mc) (hs : slots + 6 ≤ ms) (hmc : mc ≤ R.cells) (hms : ms ≤ R.slots) :
    W p l e R s m args below meth c H locs cells slots (xh_MQ below (hv_Q b0 Fa D cl post thr) s mc ms (fun q => b0 ≤ q)) (F0 m pc ls rest) := by
  refine xh_throw hE.1 hE.2.1 hl hE.2.2.1 hcls hnames (fun U hW hq => hF U (hK U hW hq)) hI.below hsize d0 d3 d4 d6 d9 hout hRf hRl hlocks (fun t q ce hW hz hk hq hce hv hcl => ?_) hI.2.2.2.2.2 hc hs hmc hms
  have hk0 : ∀ q : Nat, q < b0 → t.heap[q]? = s.heap[q]? := fun q hq => by
    have h9 : q < H.size := Nat.lt_of_lt_of_le hq (Nat.le_trans hI.2.2.1 hI.2.2.2.1)
    rw [hk q h9]; exact hI.below q hq
  refine ⟨Or.inr ⟨q, cls, ce, f, rfl, hp, ⟨fun a x ha => (hI.1 a x ha).kept (hk a (hI.1 a x ha).lt), hI.2.1, Nat.le_trans (Nat.le_trans hI.2.2.1 hI.2.2.2.1) hz, hK.go hW hk0⟩, hce, hv, hcl⟩, Nat.le_trans hI.2.2.2.1 hz, hk0⟩
/-- behind a call: it has returned, or thrown -/
theorem hv_call {rm : Room} (hr : xh_Run p l e R s m args below meth c H locs cells slots (F0 m pc ls st0) rest rm (hv_Q b0 Fa D cl post thr) (fun q => b0 ≤ q)) (hI : hv_I D cl b0 f s.heap H locs)
    (kr : ∀ (v : Option Value) (g : hv_M) (H1 : Heap) (locs1 : List Loc), post v g → hv_I D cl b0 g s.heap H1 locs1 → W p l e R s m args below meth c H1 locs1 (cells + rm.cells) (slots + rm.slots) Q (F0 m (pc + 3) ls (v.toList ++ rest)))
    (kx : ∀ (q : Addr) (E : String) (ce : Cell) (g : hv_M) (H1 : Heap) (locs1 : List Loc), thr E g → hv_I D cl b0 g s.heap H1 locs1 → H1[q]? = some ce → ce.vm = .none → s.vm.findClass E = some ce.cls → xh_W p l e R s m args below meth c H1 locs1 (cells + rm.cells) (slots + rm.slots) Q (F0 m pc ls rest) q) :
    W p l e R s m args below meth c H locs cells slots Q (F0 m pc ls st0) := by
  intro T hT X
  obtain ⟨o, st, t, V, L, hst, hWs, XV, e1, e2, hL, ⟨hq, hz, hk⟩, hsteps⟩ := hr T hT X
  have mk : ∀ g : hv_M, hv_U b0 Fa D cl g t → hv_I D cl b0 g s.heap V.heap (locs ++ L) := fun g hU => by
    refine ⟨fun a x ha => by rw [e1]; exact hU.1 a x ha, hU.2.1, hI.2.2.1, ?_, ?_, ?_⟩
    · rw [e1]
      exact Nat.le_trans hI.2.2.2.1 (by rw [← hst]; exact hz)
    · intro q _ hq2
      have hq3 : q < b0 := Nat.not_le.mp hq2
      rw [e1, hk q hq3, hst]
      exact hI.below q hq3
    · intro z hz2
      rcases List.mem_append.mp hz2 with h | h
      · exact hI.2.2.2.2.2 z h
      · exact hL z h
  rcases hq with ⟨v, g, rfl, hp, hU⟩ | ⟨q, E, ce, g, rfl, hp, hU, hce, hcv, hcl⟩
  · obtain ⟨t2, a1, b1⟩ := kr v g V.heap (locs ++ L) hp (mk g hU) V rfl XV
    exact ⟨t2, hsteps.trans a1, b1⟩
  · have hcl' : s.vm.findClass E = some ce.cls := by
      rw [hWs.alike.findClass] at hcl
      exact hcl
    obtain ⟨t2, a1, b1⟩ := kx q E ce g V.heap (locs ++ L) hp (mk g hU) (by rw [e1]; exact hce) hcv hcl' V rfl XV
    exact ⟨t2, hsteps.trans a1, b1⟩
end HVB
end
section
/-! ===== words that stay true in warmer tables, over the same cells below ===== -/
def hv_st : Cond → Bool
  | .fieldLinkNest .. => true
  | .methodLinkNest .. => true
  | .arrayOver (.object _) => true
  | w => goodWord w || (w.onTables && w.keepsCast)
theorem hv_stay {s V : State} {A A' : Array Value} (hW : s.WarmedH V.vm) : ∀ w : Cond, hv_st w = true → w.before A s = true → w.before A' V = true := by
  intro w hw h
  have key : ∀ w : Cond, (goodWord w || (w.onTables && w.keepsCast)) = true → w.before A s = true → w.before A' V = true := by
    intro w hw h
    simp only [Bool.or_eq_true, Bool.and_eq_true] at hw
    rcases hw with hw | ⟨h1, h2⟩
    · exact word_at hW (good_of_word hw) h
    · exact va_tabs h1 (rfl : (s.setVm V.vm).vm = V.vm) (Cond.before_shiftedCast (State.Shifted.of_warmed hW) w h2 h)
  cases w with
  | fieldLinkNest a i b n d h9 => exact va_tabs rfl (rfl : (s.setVm V.vm).vm = V.vm) (Cond.fieldLinkNest_warmed hW h)
  | methodLinkNest a i x h9 => exact va_tabs rfl (rfl : (s.setVm V.vm).vm = V.vm) (Cond.methodLinkNest_warmed hW h)
  | arrayOver t =>
    cases t with
    | object C => exact va_AO.use (va_AO.moved hW.alike (va_AO.of h))
    | _ => exact key _ hw h
  | _ => exact key _ hw h
/-- where a static field lies: a cell below b0 -/
theorem hv_stayL {s V : State} {A A' : Array Value} {b0 : Nat} {C n d : String} (hW : s.WarmedH V.vm) (hb : s.heap.size ≤ b0) (hq : ∀ q : Nat, q < b0 → V.heap[q]? = s.heap[q]?) (h : (Cond.laysStatic C n d).before A s = true) : (Cond.laysStatic C n d).before A' V = true := by
  obtain ⟨c, k, i, f, a, cell, h1, h2, h3, h4, h5, h6, h7, h8, h9⟩ := Cond.laysStatic_spec h
  obtain ⟨k', hi', he⟩ := State.fieldFound?_setVm hW.alike h2
  have hlt : a < s.heap.size := (Array.getElem?_eq_some_iff.mp h5).1
  show (Cond.laysStatic C n d).holds A' V none V [] = true
  exact Cond.laysStatic_of (by rw [hW.alike.findClass]; exact h1) hi' h3 (by rw [he]; exact h4) (by rw [hq a (Nat.lt_of_lt_of_le hlt hb)]; exact h5) h6 h7 h8 (by rw [he]; exact h9)
/-- .. and it holds a reference, or null -/
theorem hv_stayR {s V : State} {A A' : Array Value} {b0 : Nat} {C n d : String} (hW : s.WarmedH V.vm) (hb : s.heap.size ≤ b0) (hq : ∀ q : Nat, q < b0 → V.heap[q]? = s.heap[q]?) (hl : (Cond.laysStatic C n d).before A s = true) (h : (Cond.isRef (.static C n d)).before A s = true) : (Cond.isRef (.static C n d)).before A' V = true := by
  obtain ⟨c, k, i, f, a, cell, h1, h2, h3, h4, h5, h6, h7, h8, h9⟩ := Cond.laysStatic_spec hl
  obtain ⟨k', hi', he⟩ := State.fieldFound?_setVm hW.alike h2
  have hlt : a < s.heap.size := (Array.getElem?_eq_some_iff.mp h5).1
  cases hv : (Term.static C n d).eval A s none [] s with
  | none => simp [Cond.before, Cond.holds, Cond.value, hv] at h
  | some w =>
    obtain ⟨-, a', cell', ha', hcell', -, hslot⟩ := Term.static_spec h2 hv
    cases h4.symm.trans ha'
    cases h5.symm.trans hcell'
    have h5' : V.heap[a]? = some cell := by rw [hq a (Nat.lt_of_lt_of_le hlt hb)]; exact h5
    have h4' : k'.statics = some a := by rw [he]; exact h4
    have hi2 : V.fieldFound? C n d = some (c, k', i, f) := hi'
    have hv' : (Term.static C n d).eval A' V none [] V = some w := by
      simp [Term.eval, State.fieldNamed?, hi2, h3, h4', h5', h6, hslot]
    simp only [Cond.before, Cond.holds, Cond.value, hv] at h
    simp only [Cond.before, Cond.holds, Cond.value, hv']
    exact h
end
section
/-! ===== the words that stay, by their places ===== -/
def TS : List Cond := lw_tbl.filter hv_st
theorem hv_ts {i : Nat} {w : Cond} (h : lw_tbl[i]? = some w) (hs : hv_st w = true) : w ∈ TS := List.mem_filter.mpr ⟨List.mem_of_getElem? h, hs⟩
theorem ws0 : Cond.selects "java/lang/Throwable" ⟨"java/lang/Throwable", "fillInStackTrace", "(I)Ljava/lang/Throwable;"⟩ ⟨"java/lang/Throwable", "fillInStackTrace", "(I)Ljava/lang/Throwable;"⟩ ∈ TS := hv_ts (i := 0) (by decide +kernel) (by decide +kernel)
theorem ws1 : Cond.selects "BoxPacker" ⟨"BoxPacker", "refuseWhenFull", "()V"⟩ ⟨"BoxPacker", "refuseWhenFull", "()V"⟩ ∈ TS := hv_ts (i := 1) (by decide +kernel) (by decide +kernel)
theorem ws2 : Cond.selects "BoxPacker" ⟨"BoxPacker", "append", "(LBoxPacker$Item;)I"⟩ ⟨"BoxPacker", "append", "(LBoxPacker$Item;)I"⟩ ∈ TS := hv_ts (i := 2) (by decide +kernel) (by decide +kernel)
theorem ws3 : Cond.selects "BoxPacker" ⟨"BoxPacker", "boxNumbered", "(I)LBoxPacker$Box;"⟩ ⟨"BoxPacker", "boxNumbered", "(I)LBoxPacker$Box;"⟩ ∈ TS := hv_ts (i := 3) (by decide +kernel) (by decide +kernel)
theorem ws4 : Cond.selects "BoxPacker$Box" ⟨"BoxPacker$Box", "fit", "(III)V"⟩ ⟨"BoxPacker$Box", "fit", "(III)V"⟩ ∈ TS := hv_ts (i := 4) (by decide +kernel) (by decide +kernel)
theorem ws5 : Cond.selects "BoxPacker$Box" ⟨"BoxPacker$Box", "measureBelow", "(I)V"⟩ ⟨"BoxPacker$Box", "measureBelow", "(I)V"⟩ ∈ TS := hv_ts (i := 5) (by decide +kernel) (by decide +kernel)
theorem ws6 : Cond.selects "BoxPacker$Box" ⟨"BoxPacker$Box", "measureAlong", "()V"⟩ ⟨"BoxPacker$Box", "measureAlong", "()V"⟩ ∈ TS := hv_ts (i := 6) (by decide +kernel) (by decide +kernel)
theorem ws7 : Cond.selects "BoxPacker$Box" ⟨"BoxPacker$Box", "gives", "(Z)[I"⟩ ⟨"BoxPacker$Box", "gives", "(Z)[I"⟩ ∈ TS := hv_ts (i := 7) (by decide +kernel) (by decide +kernel)
theorem ws8 : Cond.selects "BoxPacker$Space" ⟨"BoxPacker$Space", "giveOrder", "(Z)I"⟩ ⟨"BoxPacker$Space", "giveOrder", "(Z)I"⟩ ∈ TS := hv_ts (i := 8) (by decide +kernel) (by decide +kernel)
theorem ws9 : Cond.selects "BoxPacker$Space" ⟨"BoxPacker$Space", "give", "(Z)I"⟩ ⟨"BoxPacker$Space", "give", "(Z)I"⟩ ∈ TS := hv_ts (i := 9) (by decide +kernel) (by decide +kernel)
theorem ws10 : Cond.selects "BoxPacker$Box" ⟨"BoxPacker$Box", "fillUp", "(II)V"⟩ ⟨"BoxPacker$Box", "fillUp", "(II)V"⟩ ∈ TS := hv_ts (i := 10) (by decide +kernel) (by decide +kernel)
theorem ws11 : Cond.selects "BoxPacker$Box" ⟨"BoxPacker$Box", "findTotal", "([I)V"⟩ ⟨"BoxPacker$Box", "findTotal", "([I)V"⟩ ∈ TS := hv_ts (i := 11) (by decide +kernel) (by decide +kernel)
theorem ws12 : Cond.selects "BoxPacker$Box" ⟨"BoxPacker$Box", "addShares", "()V"⟩ ⟨"BoxPacker$Box", "addShares", "()V"⟩ ∈ TS := hv_ts (i := 12) (by decide +kernel) (by decide +kernel)
theorem ws13 : Cond.selects "BoxPacker$Box" ⟨"BoxPacker$Box", "badness", "()I"⟩ ⟨"BoxPacker$Box", "badness", "()I"⟩ ∈ TS := hv_ts (i := 13) (by decide +kernel) (by decide +kernel)
theorem ws14 : Cond.selects "BoxPacker$Marks" ⟨"BoxPacker$Marks", "clear", "()V"⟩ ⟨"BoxPacker$Marks", "clear", "()V"⟩ ∈ TS := hv_ts (i := 14) (by decide +kernel) (by decide +kernel)
theorem ws15 : Cond.selects "BoxPacker" ⟨"BoxPacker", "layOut", "(LBoxPacker$Box;JJ)Z"⟩ ⟨"BoxPacker", "layOut", "(LBoxPacker$Box;JJ)Z"⟩ ∈ TS := hv_ts (i := 15) (by decide +kernel) (by decide +kernel)
theorem ws16 : Cond.selects "BoxPacker" ⟨"BoxPacker", "layOutItem", "(LBoxPacker$Box;LBoxPacker$Solid;IJJ)Z"⟩ ⟨"BoxPacker", "layOutItem", "(LBoxPacker$Box;LBoxPacker$Solid;IJJ)Z"⟩ ∈ TS := hv_ts (i := 16) (by decide +kernel) (by decide +kernel)
theorem ws17 : Cond.selects "BoxPacker$Marks" ⟨"BoxPacker$Marks", "add", "(IJJIII)Z"⟩ ⟨"BoxPacker$Marks", "add", "(IJJIII)Z"⟩ ∈ TS := hv_ts (i := 17) (by decide +kernel) (by decide +kernel)
theorem ws18 : Cond.selects "BoxPackerModel" ⟨"BoxPackerModel", "isFull", "()Z"⟩ ⟨"BoxPackerModel", "isFull", "()Z"⟩ ∈ TS := hv_ts (i := 18) (by decide +kernel) (by decide +kernel)
theorem ws19 : Cond.selects "BoxPackerModel" ⟨"BoxPackerModel", "append", "(IIIIII)I"⟩ ⟨"BoxPackerModel", "append", "(IIIIII)I"⟩ ∈ TS := hv_ts (i := 19) (by decide +kernel) (by decide +kernel)
theorem ws20 : Cond.selects "BoxPackerModel" ⟨"BoxPackerModel", "isBox", "(I)Z"⟩ ⟨"BoxPackerModel", "isBox", "(I)Z"⟩ ∈ TS := hv_ts (i := 20) (by decide +kernel) (by decide +kernel)
theorem ws21 : Cond.selects "BoxPackerModel" ⟨"BoxPackerModel", "deepest", "()I"⟩ ⟨"BoxPackerModel", "deepest", "()I"⟩ ∈ TS := hv_ts (i := 21) (by decide +kernel) (by decide +kernel)
theorem ws22 : Cond.selects "BoxPackerModel" ⟨"BoxPackerModel", "number", "(II)I"⟩ ⟨"BoxPackerModel", "number", "(II)I"⟩ ∈ TS := hv_ts (i := 22) (by decide +kernel) (by decide +kernel)
theorem ws23 : Cond.selects "BoxPackerModel" ⟨"BoxPackerModel", "clear", "()V"⟩ ⟨"BoxPackerModel", "clear", "()V"⟩ ∈ TS := hv_ts (i := 23) (by decide +kernel) (by decide +kernel)
theorem ws24 : Cond.selects "BoxPackerModel" ⟨"BoxPackerModel", "add", "(IZ)V"⟩ ⟨"BoxPackerModel", "add", "(IZ)V"⟩ ∈ TS := hv_ts (i := 24) (by decide +kernel) (by decide +kernel)
theorem ws25 : Cond.selects "BoxPackerModel" ⟨"BoxPackerModel", "isSolid", "(I)Z"⟩ ⟨"BoxPackerModel", "isSolid", "(I)Z"⟩ ∈ TS := hv_ts (i := 25) (by decide +kernel) (by decide +kernel)
theorem ws26 : Cond.selects "BoxPackerModel" ⟨"BoxPackerModel", "addSolid", "(IZ)V"⟩ ⟨"BoxPackerModel", "addSolid", "(IZ)V"⟩ ∈ TS := hv_ts (i := 26) (by decide +kernel) (by decide +kernel)
theorem ws27 : Cond.selects "BoxPackerModel" ⟨"BoxPackerModel", "grow", "(J)V"⟩ ⟨"BoxPackerModel", "grow", "(J)V"⟩ ∈ TS := hv_ts (i := 27) (by decide +kernel) (by decide +kernel)
theorem ws28 : Cond.selects "BoxPackerModel" ⟨"BoxPackerModel", "sizeOf", "(II)I"⟩ ⟨"BoxPackerModel", "sizeOf", "(II)I"⟩ ∈ TS := hv_ts (i := 28) (by decide +kernel) (by decide +kernel)
theorem ws29 : Cond.selects "BoxPackerModel" ⟨"BoxPackerModel", "solid", "(II)I"⟩ ⟨"BoxPackerModel", "solid", "(II)I"⟩ ∈ TS := hv_ts (i := 29) (by decide +kernel) (by decide +kernel)
theorem ws30 : Cond.selects "BoxPackerModel" ⟨"BoxPackerModel", "greater", "(JJ)J"⟩ ⟨"BoxPackerModel", "greater", "(JJ)J"⟩ ∈ TS := hv_ts (i := 30) (by decide +kernel) (by decide +kernel)
theorem ws31 : Cond.selects "BoxPackerModel" ⟨"BoxPackerModel", "setGlue", "(IJ)V"⟩ ⟨"BoxPackerModel", "setGlue", "(IJ)V"⟩ ∈ TS := hv_ts (i := 31) (by decide +kernel) (by decide +kernel)
theorem ws32 : Cond.selects "BoxPackerModel" ⟨"BoxPackerModel", "countAll", "()I"⟩ ⟨"BoxPackerModel", "countAll", "()I"⟩ ∈ TS := hv_ts (i := 32) (by decide +kernel) (by decide +kernel)
theorem ws33 : Cond.selects "BoxPackerModel" ⟨"BoxPackerModel", "placeOf", "(II)J"⟩ ⟨"BoxPackerModel", "placeOf", "(II)J"⟩ ∈ TS := hv_ts (i := 33) (by decide +kernel) (by decide +kernel)
theorem ws34 : Cond.selects "BoxPackerModel" ⟨"BoxPackerModel", "layBox", "(IJJ)Z"⟩ ⟨"BoxPackerModel", "layBox", "(IJJ)Z"⟩ ∈ TS := hv_ts (i := 34) (by decide +kernel) (by decide +kernel)
theorem ws35 : Cond.selects "BoxPackerModel" ⟨"BoxPackerModel", "note", "(IJJJJJ)Z"⟩ ⟨"BoxPackerModel", "note", "(IJJJJJ)Z"⟩ ∈ TS := hv_ts (i := 35) (by decide +kernel) (by decide +kernel)
theorem ws36 : Cond.selects "BoxPackerModel" ⟨"BoxPackerModel", "ruled", "(III)J"⟩ ⟨"BoxPackerModel", "ruled", "(III)J"⟩ ∈ TS := hv_ts (i := 36) (by decide +kernel) (by decide +kernel)
theorem w0 : Cond.initialized "BoxPackerLaw" ∈ TS := hv_ts (i := 37) (by decide +kernel) (by decide +kernel)
theorem w1 : Cond.initialized "BoxPacker" ∈ TS := hv_ts (i := 38) (by decide +kernel) (by decide +kernel)
theorem w2 : Cond.initialized "BoxPacker$Marks" ∈ TS := hv_ts (i := 39) (by decide +kernel) (by decide +kernel)
theorem w3 : Cond.initialized "BoxPackerModel" ∈ TS := hv_ts (i := 40) (by decide +kernel) (by decide +kernel)
theorem w4 : Cond.initialized "java/lang/Throwable" ∈ TS := hv_ts (i := 41) (by decide +kernel) (by decide +kernel)
theorem w5 : Cond.initialized "java/lang/Exception" ∈ TS := hv_ts (i := 42) (by decide +kernel) (by decide +kernel)
theorem w6 : Cond.initialized "java/lang/RuntimeException" ∈ TS := hv_ts (i := 43) (by decide +kernel) (by decide +kernel)
theorem w7 : Cond.initialized "java/lang/IllegalArgumentException" ∈ TS := hv_ts (i := 44) (by decide +kernel) (by decide +kernel)
theorem w8 : Cond.initialized "java/lang/UnsupportedOperationException" ∈ TS := hv_ts (i := 45) (by decide +kernel) (by decide +kernel)
theorem w9 : Cond.initialized "BoxPacker$Item" ∈ TS := hv_ts (i := 46) (by decide +kernel) (by decide +kernel)
theorem w10 : Cond.initialized "BoxPacker$Solid" ∈ TS := hv_ts (i := 47) (by decide +kernel) (by decide +kernel)
theorem w11 : Cond.initialized "BoxPacker$Space" ∈ TS := hv_ts (i := 48) (by decide +kernel) (by decide +kernel)
theorem w12 : Cond.initialized "java/lang/IndexOutOfBoundsException" ∈ TS := hv_ts (i := 49) (by decide +kernel) (by decide +kernel)
theorem w13 : Cond.initialized "BoxPacker$Box" ∈ TS := hv_ts (i := 50) (by decide +kernel) (by decide +kernel)
theorem w14 : Cond.initialized "java/lang/Math" ∈ TS := hv_ts (i := 51) (by decide +kernel) (by decide +kernel)
theorem w15 : Cond.initialized "java/lang/IllegalStateException" ∈ TS := hv_ts (i := 52) (by decide +kernel) (by decide +kernel)
theorem w16 : Cond.classLink "BoxPackerLaw" 8 "BoxPacker" ∈ TS := hv_ts (i := 53) (by decide +kernel) (by decide +kernel)
theorem w17 : Cond.instantiable "BoxPacker" 5 ∈ TS := hv_ts (i := 54) (by decide +kernel) (by decide +kernel)
theorem w18 : Cond.methodLink "BoxPackerLaw" 54 ⟨"BoxPacker", "<init>", "()V"⟩ ∈ TS := hv_ts (i := 55) (by decide +kernel) (by decide +kernel)
theorem w19 : Cond.instanceMethod ⟨"BoxPacker", "<init>", "()V"⟩ ∈ TS := hv_ts (i := 56) (by decide +kernel) (by decide +kernel)
theorem w20 : Cond.code ⟨"BoxPacker", "<init>", "()V"⟩ prog_1_method_1_code 1 none ∈ TS := hv_ts (i := 57) (by decide +kernel) (by decide +kernel)
theorem w21 : Cond.methodLink "BoxPacker" 1 ⟨"java/lang/Object", "<init>", "()V"⟩ ∈ TS := hv_ts (i := 58) (by decide +kernel) (by decide +kernel)
theorem w22 : Cond.instanceMethod ⟨"java/lang/Object", "<init>", "()V"⟩ ∈ TS := hv_ts (i := 59) (by decide +kernel) (by decide +kernel)
theorem w23 : Cond.code ⟨"java/lang/Object", "<init>", "()V"⟩ object_method_1_code 1 none ∈ TS := hv_ts (i := 60) (by decide +kernel) (by decide +kernel)
theorem w24 : Cond.classLink "BoxPacker" 9 "BoxPacker$Item" ∈ TS := hv_ts (i := 61) (by decide +kernel) (by decide +kernel)
theorem w25 : Cond.arrayOver (FieldType.object "BoxPacker$Item") ∈ TS := hv_ts (i := 62) (by decide +kernel) (by decide +kernel)
theorem w26 : Cond.classLink "BoxPacker" 19 "BoxPacker$Box" ∈ TS := hv_ts (i := 63) (by decide +kernel) (by decide +kernel)
theorem w27 : Cond.arrayOver (FieldType.object "BoxPacker$Box") ∈ TS := hv_ts (i := 64) (by decide +kernel) (by decide +kernel)
theorem w28 : Cond.classLink "BoxPacker" 28 "BoxPacker$Marks" ∈ TS := hv_ts (i := 65) (by decide +kernel) (by decide +kernel)
theorem w29 : Cond.instantiable "BoxPacker$Marks" 2 ∈ TS := hv_ts (i := 66) (by decide +kernel) (by decide +kernel)
theorem w30 : Cond.methodLinkNest "BoxPacker" 30 ⟨"BoxPacker$Marks", "<init>", "()V"⟩ "BoxPacker" ∈ TS := hv_ts (i := 67) (by decide +kernel) (by decide +kernel)
theorem w31 : Cond.instanceMethod ⟨"BoxPacker$Marks", "<init>", "()V"⟩ ∈ TS := hv_ts (i := 68) (by decide +kernel) (by decide +kernel)
theorem w32 : Cond.code ⟨"BoxPacker$Marks", "<init>", "()V"⟩ prog_4_method_1_code 1 none ∈ TS := hv_ts (i := 69) (by decide +kernel) (by decide +kernel)
theorem w33 : Cond.methodLink "BoxPacker$Marks" 3 ⟨"java/lang/Object", "<init>", "()V"⟩ ∈ TS := hv_ts (i := 70) (by decide +kernel) (by decide +kernel)
theorem w34 : Cond.fieldLink "BoxPacker$Marks" 11 "BoxPacker$Marks" "row" "[J" ∈ TS := hv_ts (i := 71) (by decide +kernel) (by decide +kernel)
theorem w35 : Cond.fieldLinkNest "BoxPacker" 166 "BoxPacker$Marks" "row" "[J" "BoxPacker" ∈ TS := hv_ts (i := 72) (by decide +kernel) (by decide +kernel)
theorem w36 : Cond.fieldLink "BoxPacker$Marks" 15 "BoxPacker$Marks" "count" "I" ∈ TS := hv_ts (i := 73) (by decide +kernel) (by decide +kernel)
theorem w37 : Cond.fieldLinkNest "BoxPacker" 159 "BoxPacker$Marks" "count" "I" "BoxPacker" ∈ TS := hv_ts (i := 74) (by decide +kernel) (by decide +kernel)
theorem w38 : Cond.laysFinal "BoxPacker$Marks" "BoxPacker$Marks" "row" "[J" ∈ TS := hv_ts (i := 75) (by decide +kernel) (by decide +kernel)
theorem w40 : Cond.lays "BoxPacker$Marks" "BoxPacker$Marks" "count" "I" ∈ TS := hv_ts (i := 77) (by decide +kernel) (by decide +kernel)
theorem w42 : Cond.superclass "BoxPacker$Marks" "java/lang/Object" ∈ TS := hv_ts (i := 79) (by decide +kernel) (by decide +kernel)
theorem w43 : Cond.arrayClass FieldType.long ∈ TS := hv_ts (i := 80) (by decide +kernel) (by decide +kernel)
theorem w44 : Cond.fieldLink "BoxPacker" 11 "BoxPacker" "list" "[LBoxPacker$Item;" ∈ TS := hv_ts (i := 81) (by decide +kernel) (by decide +kernel)
theorem w45 : Cond.fieldLink "BoxPacker" 15 "BoxPacker" "listed" "I" ∈ TS := hv_ts (i := 82) (by decide +kernel) (by decide +kernel)
theorem w46 : Cond.fieldLink "BoxPacker" 21 "BoxPacker" "made" "[LBoxPacker$Box;" ∈ TS := hv_ts (i := 83) (by decide +kernel) (by decide +kernel)
theorem w47 : Cond.fieldLink "BoxPacker" 25 "BoxPacker" "boxesMade" "I" ∈ TS := hv_ts (i := 84) (by decide +kernel) (by decide +kernel)
theorem w48 : Cond.fieldLink "BoxPacker" 31 "BoxPacker" "marks" "LBoxPacker$Marks;" ∈ TS := hv_ts (i := 85) (by decide +kernel) (by decide +kernel)
theorem w49 : Cond.laysFinal "BoxPacker" "BoxPacker" "list" "[LBoxPacker$Item;" ∈ TS := hv_ts (i := 86) (by decide +kernel) (by decide +kernel)
theorem w51 : Cond.lays "BoxPacker" "BoxPacker" "listed" "I" ∈ TS := hv_ts (i := 88) (by decide +kernel) (by decide +kernel)
theorem w53 : Cond.laysFinal "BoxPacker" "BoxPacker" "made" "[LBoxPacker$Box;" ∈ TS := hv_ts (i := 90) (by decide +kernel) (by decide +kernel)
theorem w55 : Cond.lays "BoxPacker" "BoxPacker" "boxesMade" "I" ∈ TS := hv_ts (i := 92) (by decide +kernel) (by decide +kernel)
theorem w57 : Cond.laysFinal "BoxPacker" "BoxPacker" "marks" "LBoxPacker$Marks;" ∈ TS := hv_ts (i := 94) (by decide +kernel) (by decide +kernel)
theorem w59 : Cond.superclass "BoxPacker" "java/lang/Object" ∈ TS := hv_ts (i := 96) (by decide +kernel) (by decide +kernel)
theorem w60 : Cond.methodLink "BoxPackerLaw" 84 ⟨"BoxPacker", "keep", "(I)Z"⟩ ∈ TS := hv_ts (i := 97) (by decide +kernel) (by decide +kernel)
theorem w61 : Cond.instanceMethod ⟨"BoxPacker", "keep", "(I)Z"⟩ ∈ TS := hv_ts (i := 98) (by decide +kernel) (by decide +kernel)
theorem w62 : Cond.selects "BoxPacker" ⟨"BoxPacker", "keep", "(I)Z"⟩ ⟨"BoxPacker", "keep", "(I)Z"⟩ ∈ TS := hv_ts (i := 99) (by decide +kernel) (by decide +kernel)
theorem w63 : Cond.code ⟨"BoxPacker", "keep", "(I)Z"⟩ prog_1_method_7_code 2 (some FieldType.boolean) ∈ TS := hv_ts (i := 100) (by decide +kernel) (by decide +kernel)
theorem w64 : Cond.methodLink "BoxPackerLaw" 89 ⟨"BoxPacker", "items", "()I"⟩ ∈ TS := hv_ts (i := 101) (by decide +kernel) (by decide +kernel)
theorem w65 : Cond.instanceMethod ⟨"BoxPacker", "items", "()I"⟩ ∈ TS := hv_ts (i := 102) (by decide +kernel) (by decide +kernel)
theorem w66 : Cond.selects "BoxPacker" ⟨"BoxPacker", "items", "()I"⟩ ⟨"BoxPacker", "items", "()I"⟩ ∈ TS := hv_ts (i := 103) (by decide +kernel) (by decide +kernel)
theorem w67 : Cond.code ⟨"BoxPacker", "items", "()I"⟩ prog_1_method_8_code 1 (some FieldType.int) ∈ TS := hv_ts (i := 104) (by decide +kernel) (by decide +kernel)
theorem w68 : Cond.methodLink "BoxPackerLaw" 97 ⟨"BoxPacker", "boxes", "()I"⟩ ∈ TS := hv_ts (i := 105) (by decide +kernel) (by decide +kernel)
theorem w69 : Cond.instanceMethod ⟨"BoxPacker", "boxes", "()I"⟩ ∈ TS := hv_ts (i := 106) (by decide +kernel) (by decide +kernel)
theorem w70 : Cond.selects "BoxPacker" ⟨"BoxPacker", "boxes", "()I"⟩ ⟨"BoxPacker", "boxes", "()I"⟩ ∈ TS := hv_ts (i := 107) (by decide +kernel) (by decide +kernel)
theorem w71 : Cond.code ⟨"BoxPacker", "boxes", "()I"⟩ prog_1_method_10_code 1 (some FieldType.int) ∈ TS := hv_ts (i := 108) (by decide +kernel) (by decide +kernel)
theorem w72 : Cond.methodLink "BoxPackerLaw" 58 ⟨"BoxPackerLaw", "leaf", "(LBoxPacker;IIII[J)I"⟩ ∈ TS := hv_ts (i := 109) (by decide +kernel) (by decide +kernel)
theorem w73 : Cond.static ⟨"BoxPackerLaw", "leaf", "(LBoxPacker;IIII[J)I"⟩ ∈ TS := hv_ts (i := 110) (by decide +kernel) (by decide +kernel)
theorem w74 : Cond.codeWith ⟨"BoxPackerLaw", "leaf", "(LBoxPacker;IIII[J)I"⟩ method_3_code 7 (some FieldType.int) [(0, 14, 17, 13), (0, 14, 21, 15)] ∈ TS := hv_ts (i := 111) (by decide +kernel) (by decide +kernel)
theorem w75 : Cond.classLink "BoxPackerLaw" 13 "java/lang/IllegalArgumentException" ∈ TS := hv_ts (i := 112) (by decide +kernel) (by decide +kernel)
theorem w76 : Cond.classLink "BoxPackerLaw" 15 "java/lang/UnsupportedOperationException" ∈ TS := hv_ts (i := 113) (by decide +kernel) (by decide +kernel)
theorem w77 : Cond.methodLink "BoxPackerLaw" 7 ⟨"BoxPacker", "leaf", "(IIII)I"⟩ ∈ TS := hv_ts (i := 114) (by decide +kernel) (by decide +kernel)
theorem w78 : Cond.instanceMethod ⟨"BoxPacker", "leaf", "(IIII)I"⟩ ∈ TS := hv_ts (i := 115) (by decide +kernel) (by decide +kernel)
theorem w79 : Cond.selects "BoxPacker" ⟨"BoxPacker", "leaf", "(IIII)I"⟩ ⟨"BoxPacker", "leaf", "(IIII)I"⟩ ∈ TS := hv_ts (i := 116) (by decide +kernel) (by decide +kernel)
theorem w80 : Cond.code ⟨"BoxPacker", "leaf", "(IIII)I"⟩ prog_1_method_2_code 5 (some FieldType.int) ∈ TS := hv_ts (i := 117) (by decide +kernel) (by decide +kernel)
theorem w81 : Cond.constant "BoxPacker" 35 65535 ∈ TS := hv_ts (i := 118) (by decide +kernel) (by decide +kernel)
theorem w82 : Cond.classLink "BoxPacker" 36 "java/lang/IllegalArgumentException" ∈ TS := hv_ts (i := 119) (by decide +kernel) (by decide +kernel)
theorem w83 : Cond.instantiable "java/lang/IllegalArgumentException" 6 ∈ TS := hv_ts (i := 120) (by decide +kernel) (by decide +kernel)
theorem w84 : Cond.castable "java/lang/IllegalArgumentException" "java/lang/IllegalArgumentException" ∈ TS := hv_ts (i := 121) (by decide +kernel) (by decide +kernel)
theorem w85 : Cond.declares ⟨"java/lang/RuntimeException", "<init>", "()V"⟩ ∈ TS := hv_ts (i := 122) (by decide +kernel) (by decide +kernel)
theorem w86 : Cond.declares ⟨"java/lang/RuntimeException", "<init>", "(Ljava/lang/String;)V"⟩ ∈ TS := hv_ts (i := 123) (by decide +kernel) (by decide +kernel)
theorem w87 : Cond.declares ⟨"java/lang/Exception", "<init>", "()V"⟩ ∈ TS := hv_ts (i := 124) (by decide +kernel) (by decide +kernel)
theorem w88 : Cond.declares ⟨"java/lang/Exception", "<init>", "(Ljava/lang/String;)V"⟩ ∈ TS := hv_ts (i := 125) (by decide +kernel) (by decide +kernel)
theorem w89 : Cond.declares ⟨"java/lang/Throwable", "<init>", "()V"⟩ ∈ TS := hv_ts (i := 126) (by decide +kernel) (by decide +kernel)
theorem w90 : Cond.declares ⟨"java/lang/Throwable", "<init>", "(Ljava/lang/String;)V"⟩ ∈ TS := hv_ts (i := 127) (by decide +kernel) (by decide +kernel)
theorem w91 : Cond.selects "java/lang/IllegalArgumentException" ⟨"java/lang/Throwable", "fillInStackTrace", "(I)Ljava/lang/Throwable;"⟩ ⟨"java/lang/Throwable", "fillInStackTrace", "(I)Ljava/lang/Throwable;"⟩ ∈ TS := hv_ts (i := 128) (by decide +kernel) (by decide +kernel)
theorem w92 : Cond.selects "java/lang/IllegalArgumentException" ⟨"java/lang/Throwable", "fillInStackTrace", "()Ljava/lang/Throwable;"⟩ ⟨"java/lang/Throwable", "fillInStackTrace", "()Ljava/lang/Throwable;"⟩ ∈ TS := hv_ts (i := 129) (by decide +kernel) (by decide +kernel)
theorem w93 : Cond.lays "java/lang/IllegalArgumentException" "java/lang/Throwable" "cause" "Ljava/lang/Throwable;" ∈ TS := hv_ts (i := 130) (by decide +kernel) (by decide +kernel)
theorem w94 : Cond.lays "java/lang/Throwable" "java/lang/Throwable" "cause" "Ljava/lang/Throwable;" ∈ TS := hv_ts (i := 131) (by decide +kernel) (by decide +kernel)
theorem w95 : Cond.lays "java/lang/IllegalArgumentException" "java/lang/Throwable" "stackTrace" "[Ljava/lang/StackTraceElement;" ∈ TS := hv_ts (i := 132) (by decide +kernel) (by decide +kernel)
theorem w96 : Cond.lays "java/lang/Throwable" "java/lang/Throwable" "stackTrace" "[Ljava/lang/StackTraceElement;" ∈ TS := hv_ts (i := 133) (by decide +kernel) (by decide +kernel)
theorem w97 : Cond.lays "java/lang/IllegalArgumentException" "java/lang/Throwable" "suppressedExceptions" "Ljava/util/List;" ∈ TS := hv_ts (i := 134) (by decide +kernel) (by decide +kernel)
theorem w98 : Cond.lays "java/lang/Throwable" "java/lang/Throwable" "suppressedExceptions" "Ljava/util/List;" ∈ TS := hv_ts (i := 135) (by decide +kernel) (by decide +kernel)
theorem w99 : Cond.lays "java/lang/IllegalArgumentException" "java/lang/Throwable" "detailMessage" "Ljava/lang/String;" ∈ TS := hv_ts (i := 136) (by decide +kernel) (by decide +kernel)
theorem w100 : Cond.lays "java/lang/Throwable" "java/lang/Throwable" "detailMessage" "Ljava/lang/String;" ∈ TS := hv_ts (i := 137) (by decide +kernel) (by decide +kernel)
theorem w101 : Cond.lays "java/lang/IllegalArgumentException" "java/lang/Throwable" "backtrace" "Ljava/lang/Object;" ∈ TS := hv_ts (i := 138) (by decide +kernel) (by decide +kernel)
theorem w102 : Cond.lays "java/lang/Throwable" "java/lang/Throwable" "backtrace" "Ljava/lang/Object;" ∈ TS := hv_ts (i := 139) (by decide +kernel) (by decide +kernel)
theorem w103 : Cond.fieldLink "java/lang/Throwable" 198 "java/lang/Throwable" "backtrace" "Ljava/lang/Object;" ∈ TS := hv_ts (i := 140) (by decide +kernel) (by decide +kernel)
theorem w104 : Cond.superclass "java/lang/Throwable" "java/lang/Object" ∈ TS := hv_ts (i := 141) (by decide +kernel) (by decide +kernel)
theorem w105 : Cond.instanceMethod ⟨"java/lang/Throwable", "<init>", "()V"⟩ ∈ TS := hv_ts (i := 142) (by decide +kernel) (by decide +kernel)
theorem w106 : Cond.code ⟨"java/lang/Throwable", "<init>", "()V"⟩ prog_16_method_1_code 1 none ∈ TS := hv_ts (i := 143) (by decide +kernel) (by decide +kernel)
theorem w107 : Cond.methodLink "java/lang/Throwable" 1 ⟨"java/lang/Object", "<init>", "()V"⟩ ∈ TS := hv_ts (i := 144) (by decide +kernel) (by decide +kernel)
theorem w108 : Cond.fieldLink "java/lang/Throwable" 13 "java/lang/Throwable" "UNASSIGNED_STACK" "[Ljava/lang/StackTraceElement;" ∈ TS := hv_ts (i := 145) (by decide +kernel) (by decide +kernel)
theorem w110 : Cond.fieldLink "java/lang/Throwable" 20 "java/lang/Throwable" "SUPPRESSED_SENTINEL" "Ljava/util/List;" ∈ TS := hv_ts (i := 147) (by decide +kernel) (by decide +kernel)
theorem w112 : Cond.methodLink "java/lang/Throwable" 27 ⟨"java/lang/Throwable", "fillInStackTrace", "()Ljava/lang/Throwable;"⟩ ∈ TS := hv_ts (i := 149) (by decide +kernel) (by decide +kernel)
theorem w113 : Cond.instanceMethod ⟨"java/lang/Throwable", "fillInStackTrace", "()Ljava/lang/Throwable;"⟩ ∈ TS := hv_ts (i := 150) (by decide +kernel) (by decide +kernel)
theorem w114 : Cond.sameMethod "java/lang/Throwable" "java/lang/Throwable" "fillInStackTrace" "()Ljava/lang/Throwable;" ∈ TS := hv_ts (i := 151) (by decide +kernel) (by decide +kernel)
theorem w115 : Cond.selects "java/lang/IllegalStateException" ⟨"java/lang/Throwable", "fillInStackTrace", "()Ljava/lang/Throwable;"⟩ ⟨"java/lang/Throwable", "fillInStackTrace", "()Ljava/lang/Throwable;"⟩ ∈ TS := hv_ts (i := 152) (by decide +kernel) (by decide +kernel)
theorem w116 : Cond.selects "java/lang/IndexOutOfBoundsException" ⟨"java/lang/Throwable", "fillInStackTrace", "()Ljava/lang/Throwable;"⟩ ⟨"java/lang/Throwable", "fillInStackTrace", "()Ljava/lang/Throwable;"⟩ ∈ TS := hv_ts (i := 153) (by decide +kernel) (by decide +kernel)
theorem w117 : Cond.selects "java/lang/UnsupportedOperationException" ⟨"java/lang/Throwable", "fillInStackTrace", "()Ljava/lang/Throwable;"⟩ ⟨"java/lang/Throwable", "fillInStackTrace", "()Ljava/lang/Throwable;"⟩ ∈ TS := hv_ts (i := 154) (by decide +kernel) (by decide +kernel)
theorem w118 : Cond.codeSync ⟨"java/lang/Throwable", "fillInStackTrace", "()Ljava/lang/Throwable;"⟩ prog_16_method_18_code 1 (some (FieldType.object "java/lang/Throwable")) ∈ TS := hv_ts (i := 155) (by decide +kernel) (by decide +kernel)
theorem w119 : Cond.methodLink "java/lang/Throwable" 202 ⟨"java/lang/Throwable", "fillInStackTrace", "(I)Ljava/lang/Throwable;"⟩ ∈ TS := hv_ts (i := 156) (by decide +kernel) (by decide +kernel)
theorem w121 : Cond.instanceMethod ⟨"java/lang/Throwable", "fillInStackTrace", "(I)Ljava/lang/Throwable;"⟩ ∈ TS := hv_ts (i := 158) (by decide +kernel) (by decide +kernel)
theorem w122 : Cond.instantiable "java/lang/Throwable" 6 ∈ TS := hv_ts (i := 159) (by decide +kernel) (by decide +kernel)
theorem w123 : Cond.native ⟨"java/lang/Throwable", "fillInStackTrace", "(I)Ljava/lang/Throwable;"⟩ ∈ TS := hv_ts (i := 160) (by decide +kernel) (by decide +kernel)
theorem w125 : Cond.methodLink "BoxPacker" 40 ⟨"java/lang/IllegalArgumentException", "<init>", "(Ljava/lang/String;)V"⟩ ∈ TS := hv_ts (i := 162) (by decide +kernel) (by decide +kernel)
theorem w126 : Cond.instanceMethod ⟨"java/lang/IllegalArgumentException", "<init>", "(Ljava/lang/String;)V"⟩ ∈ TS := hv_ts (i := 163) (by decide +kernel) (by decide +kernel)
theorem w127 : Cond.code ⟨"java/lang/IllegalArgumentException", "<init>", "(Ljava/lang/String;)V"⟩ prog_10_method_2_code 2 none ∈ TS := hv_ts (i := 164) (by decide +kernel) (by decide +kernel)
theorem w128 : Cond.methodLink "java/lang/IllegalArgumentException" 7 ⟨"java/lang/RuntimeException", "<init>", "(Ljava/lang/String;)V"⟩ ∈ TS := hv_ts (i := 165) (by decide +kernel) (by decide +kernel)
theorem w129 : Cond.instanceMethod ⟨"java/lang/RuntimeException", "<init>", "(Ljava/lang/String;)V"⟩ ∈ TS := hv_ts (i := 166) (by decide +kernel) (by decide +kernel)
theorem w130 : Cond.code ⟨"java/lang/RuntimeException", "<init>", "(Ljava/lang/String;)V"⟩ prog_14_method_2_code 2 none ∈ TS := hv_ts (i := 167) (by decide +kernel) (by decide +kernel)
theorem w131 : Cond.methodLink "java/lang/RuntimeException" 7 ⟨"java/lang/Exception", "<init>", "(Ljava/lang/String;)V"⟩ ∈ TS := hv_ts (i := 168) (by decide +kernel) (by decide +kernel)
theorem w132 : Cond.instanceMethod ⟨"java/lang/Exception", "<init>", "(Ljava/lang/String;)V"⟩ ∈ TS := hv_ts (i := 169) (by decide +kernel) (by decide +kernel)
theorem w133 : Cond.code ⟨"java/lang/Exception", "<init>", "(Ljava/lang/String;)V"⟩ prog_9_method_2_code 2 none ∈ TS := hv_ts (i := 170) (by decide +kernel) (by decide +kernel)
theorem w134 : Cond.methodLink "java/lang/Exception" 7 ⟨"java/lang/Throwable", "<init>", "(Ljava/lang/String;)V"⟩ ∈ TS := hv_ts (i := 171) (by decide +kernel) (by decide +kernel)
theorem w135 : Cond.instanceMethod ⟨"java/lang/Throwable", "<init>", "(Ljava/lang/String;)V"⟩ ∈ TS := hv_ts (i := 172) (by decide +kernel) (by decide +kernel)
theorem w136 : Cond.code ⟨"java/lang/Throwable", "<init>", "(Ljava/lang/String;)V"⟩ prog_16_method_2_code 2 none ∈ TS := hv_ts (i := 173) (by decide +kernel) (by decide +kernel)
theorem w137 : Cond.fieldLink "java/lang/Throwable" 198 "java/lang/Throwable" "backtrace" "Ljava/lang/Object;" ∈ TS := hv_ts (i := 174) (by decide +kernel) (by decide +kernel)
theorem w138 : Cond.fieldLink "java/lang/Throwable" 31 "java/lang/Throwable" "detailMessage" "Ljava/lang/String;" ∈ TS := hv_ts (i := 175) (by decide +kernel) (by decide +kernel)
theorem w139 : Cond.fieldLink "java/lang/Throwable" 7 "java/lang/Throwable" "cause" "Ljava/lang/Throwable;" ∈ TS := hv_ts (i := 176) (by decide +kernel) (by decide +kernel)
theorem w140 : Cond.fieldLink "java/lang/Throwable" 17 "java/lang/Throwable" "stackTrace" "[Ljava/lang/StackTraceElement;" ∈ TS := hv_ts (i := 177) (by decide +kernel) (by decide +kernel)
theorem w141 : Cond.fieldLink "java/lang/Throwable" 24 "java/lang/Throwable" "suppressedExceptions" "Ljava/util/List;" ∈ TS := hv_ts (i := 178) (by decide +kernel) (by decide +kernel)
end
section
theorem w146 : Cond.lays "java/lang/IllegalArgumentException" "java/lang/Throwable" "depth" "I" ∈ TS := hv_ts (i := 183) (by decide +kernel) (by decide +kernel)
theorem w149 : Cond.superclass "java/lang/IllegalArgumentException" "java/lang/RuntimeException" ∈ TS := hv_ts (i := 186) (by decide +kernel) (by decide +kernel)
theorem w150 : Cond.arrayClass FieldType.byte ∈ TS := hv_ts (i := 187) (by decide +kernel) (by decide +kernel)
theorem w151 : Cond.methodLink "BoxPacker" 43 ⟨"BoxPacker", "isSize", "(J)Z"⟩ ∈ TS := hv_ts (i := 188) (by decide +kernel) (by decide +kernel)
theorem w152 : Cond.static ⟨"BoxPacker", "isSize", "(J)Z"⟩ ∈ TS := hv_ts (i := 189) (by decide +kernel) (by decide +kernel)
theorem w153 : Cond.code ⟨"BoxPacker", "isSize", "(J)Z"⟩ prog_1_method_20_code 2 (some FieldType.boolean) ∈ TS := hv_ts (i := 190) (by decide +kernel) (by decide +kernel)
theorem w154 : Cond.constantLong "BoxPacker" 206 (-1073741823) ∈ TS := hv_ts (i := 191) (by decide +kernel) (by decide +kernel)
theorem w155 : Cond.constantLong "BoxPacker" 208 1073741823 ∈ TS := hv_ts (i := 192) (by decide +kernel) (by decide +kernel)
theorem w157 : Cond.methodLink "BoxPacker" 49 ⟨"BoxPacker", "refuseWhenFull", "()V"⟩ ∈ TS := hv_ts (i := 194) (by decide +kernel) (by decide +kernel)
theorem w159 : Cond.instanceMethod ⟨"BoxPacker", "refuseWhenFull", "()V"⟩ ∈ TS := hv_ts (i := 196) (by decide +kernel) (by decide +kernel)
theorem w160 : Cond.code ⟨"BoxPacker", "refuseWhenFull", "()V"⟩ prog_1_method_15_code 1 none ∈ TS := hv_ts (i := 197) (by decide +kernel) (by decide +kernel)
theorem w161 : Cond.classLink "BoxPacker" 100 "java/lang/UnsupportedOperationException" ∈ TS := hv_ts (i := 198) (by decide +kernel) (by decide +kernel)
theorem w162 : Cond.instantiable "java/lang/UnsupportedOperationException" 6 ∈ TS := hv_ts (i := 199) (by decide +kernel) (by decide +kernel)
theorem w163 : Cond.castable "java/lang/UnsupportedOperationException" "java/lang/UnsupportedOperationException" ∈ TS := hv_ts (i := 200) (by decide +kernel) (by decide +kernel)
theorem w164 : Cond.selects "java/lang/UnsupportedOperationException" ⟨"java/lang/Throwable", "fillInStackTrace", "(I)Ljava/lang/Throwable;"⟩ ⟨"java/lang/Throwable", "fillInStackTrace", "(I)Ljava/lang/Throwable;"⟩ ∈ TS := hv_ts (i := 201) (by decide +kernel) (by decide +kernel)
theorem w165 : Cond.lays "java/lang/UnsupportedOperationException" "java/lang/Throwable" "cause" "Ljava/lang/Throwable;" ∈ TS := hv_ts (i := 202) (by decide +kernel) (by decide +kernel)
theorem w166 : Cond.lays "java/lang/UnsupportedOperationException" "java/lang/Throwable" "stackTrace" "[Ljava/lang/StackTraceElement;" ∈ TS := hv_ts (i := 203) (by decide +kernel) (by decide +kernel)
theorem w167 : Cond.lays "java/lang/UnsupportedOperationException" "java/lang/Throwable" "suppressedExceptions" "Ljava/util/List;" ∈ TS := hv_ts (i := 204) (by decide +kernel) (by decide +kernel)
theorem w168 : Cond.lays "java/lang/UnsupportedOperationException" "java/lang/Throwable" "detailMessage" "Ljava/lang/String;" ∈ TS := hv_ts (i := 205) (by decide +kernel) (by decide +kernel)
theorem w169 : Cond.lays "java/lang/UnsupportedOperationException" "java/lang/Throwable" "backtrace" "Ljava/lang/Object;" ∈ TS := hv_ts (i := 206) (by decide +kernel) (by decide +kernel)
theorem w171 : Cond.methodLink "BoxPacker" 104 ⟨"java/lang/UnsupportedOperationException", "<init>", "(Ljava/lang/String;)V"⟩ ∈ TS := hv_ts (i := 208) (by decide +kernel) (by decide +kernel)
theorem w172 : Cond.instanceMethod ⟨"java/lang/UnsupportedOperationException", "<init>", "(Ljava/lang/String;)V"⟩ ∈ TS := hv_ts (i := 209) (by decide +kernel) (by decide +kernel)
theorem w173 : Cond.code ⟨"java/lang/UnsupportedOperationException", "<init>", "(Ljava/lang/String;)V"⟩ prog_17_method_2_code 2 none ∈ TS := hv_ts (i := 210) (by decide +kernel) (by decide +kernel)
theorem w174 : Cond.methodLink "java/lang/UnsupportedOperationException" 7 ⟨"java/lang/RuntimeException", "<init>", "(Ljava/lang/String;)V"⟩ ∈ TS := hv_ts (i := 211) (by decide +kernel) (by decide +kernel)
theorem w175 : Cond.lays "java/lang/UnsupportedOperationException" "java/lang/Throwable" "depth" "I" ∈ TS := hv_ts (i := 212) (by decide +kernel) (by decide +kernel)
theorem w176 : Cond.superclass "java/lang/UnsupportedOperationException" "java/lang/RuntimeException" ∈ TS := hv_ts (i := 213) (by decide +kernel) (by decide +kernel)
theorem w177 : Cond.classLink "BoxPacker" 52 "BoxPacker$Solid" ∈ TS := hv_ts (i := 214) (by decide +kernel) (by decide +kernel)
theorem w178 : Cond.instantiable "BoxPacker$Solid" 6 ∈ TS := hv_ts (i := 215) (by decide +kernel) (by decide +kernel)
theorem w179 : Cond.methodLinkNest "BoxPacker" 54 ⟨"BoxPacker$Solid", "<init>", "(IIIILBoxPacker$Box;I)V"⟩ "BoxPacker" ∈ TS := hv_ts (i := 216) (by decide +kernel) (by decide +kernel)
theorem w180 : Cond.instanceMethod ⟨"BoxPacker$Solid", "<init>", "(IIIILBoxPacker$Box;I)V"⟩ ∈ TS := hv_ts (i := 217) (by decide +kernel) (by decide +kernel)
theorem w181 : Cond.code ⟨"BoxPacker$Solid", "<init>", "(IIIILBoxPacker$Box;I)V"⟩ prog_5_method_1_code 7 none ∈ TS := hv_ts (i := 218) (by decide +kernel) (by decide +kernel)
theorem w182 : Cond.methodLinkNest "BoxPacker$Solid" 1 ⟨"BoxPacker$Item", "<init>", "()V"⟩ "BoxPacker" ∈ TS := hv_ts (i := 219) (by decide +kernel) (by decide +kernel)
theorem w183 : Cond.instanceMethod ⟨"BoxPacker$Item", "<init>", "()V"⟩ ∈ TS := hv_ts (i := 220) (by decide +kernel) (by decide +kernel)
theorem w184 : Cond.code ⟨"BoxPacker$Item", "<init>", "()V"⟩ prog_3_method_1_code 1 none ∈ TS := hv_ts (i := 221) (by decide +kernel) (by decide +kernel)
theorem w185 : Cond.methodLink "BoxPacker$Item" 1 ⟨"java/lang/Object", "<init>", "()V"⟩ ∈ TS := hv_ts (i := 222) (by decide +kernel) (by decide +kernel)
theorem w186 : Cond.fieldLink "BoxPacker$Solid" 7 "BoxPacker$Solid" "tag" "I" ∈ TS := hv_ts (i := 223) (by decide +kernel) (by decide +kernel)
theorem w187 : Cond.fieldLinkNest "BoxPacker" 199 "BoxPacker$Solid" "tag" "I" "BoxPacker" ∈ TS := hv_ts (i := 224) (by decide +kernel) (by decide +kernel)
theorem w188 : Cond.fieldLink "BoxPacker$Solid" 13 "BoxPacker$Solid" "width" "I" ∈ TS := hv_ts (i := 225) (by decide +kernel) (by decide +kernel)
theorem w189 : Cond.fieldLinkNest "BoxPacker$Box" 91 "BoxPacker$Solid" "width" "I" "BoxPacker" ∈ TS := hv_ts (i := 226) (by decide +kernel) (by decide +kernel)
theorem w190 : Cond.fieldLinkNest "BoxPacker" 194 "BoxPacker$Solid" "width" "I" "BoxPacker" ∈ TS := hv_ts (i := 227) (by decide +kernel) (by decide +kernel)
theorem w191 : Cond.fieldLink "BoxPacker$Solid" 16 "BoxPacker$Solid" "height" "I" ∈ TS := hv_ts (i := 228) (by decide +kernel) (by decide +kernel)
theorem w192 : Cond.fieldLinkNest "BoxPacker$Box" 100 "BoxPacker$Solid" "height" "I" "BoxPacker" ∈ TS := hv_ts (i := 229) (by decide +kernel) (by decide +kernel)
theorem w193 : Cond.fieldLinkNest "BoxPacker" 185 "BoxPacker$Solid" "height" "I" "BoxPacker" ∈ TS := hv_ts (i := 230) (by decide +kernel) (by decide +kernel)
theorem w194 : Cond.fieldLink "BoxPacker$Solid" 19 "BoxPacker$Solid" "depth" "I" ∈ TS := hv_ts (i := 231) (by decide +kernel) (by decide +kernel)
theorem w195 : Cond.fieldLinkNest "BoxPacker$Box" 104 "BoxPacker$Solid" "depth" "I" "BoxPacker" ∈ TS := hv_ts (i := 232) (by decide +kernel) (by decide +kernel)
theorem w196 : Cond.fieldLinkNest "BoxPacker" 198 "BoxPacker$Solid" "depth" "I" "BoxPacker" ∈ TS := hv_ts (i := 233) (by decide +kernel) (by decide +kernel)
theorem w197 : Cond.fieldLink "BoxPacker$Solid" 22 "BoxPacker$Solid" "inner" "LBoxPacker$Box;" ∈ TS := hv_ts (i := 234) (by decide +kernel) (by decide +kernel)
theorem w198 : Cond.fieldLinkNest "BoxPacker$Box" 49 "BoxPacker$Solid" "inner" "LBoxPacker$Box;" "BoxPacker" ∈ TS := hv_ts (i := 235) (by decide +kernel) (by decide +kernel)
theorem w199 : Cond.fieldLinkNest "BoxPacker" 190 "BoxPacker$Solid" "inner" "LBoxPacker$Box;" "BoxPacker" ∈ TS := hv_ts (i := 236) (by decide +kernel) (by decide +kernel)
theorem w200 : Cond.fieldLink "BoxPacker$Solid" 26 "BoxPacker$Solid" "shift" "I" ∈ TS := hv_ts (i := 237) (by decide +kernel) (by decide +kernel)
theorem w201 : Cond.fieldLinkNest "BoxPacker$Box" 101 "BoxPacker$Solid" "shift" "I" "BoxPacker" ∈ TS := hv_ts (i := 238) (by decide +kernel) (by decide +kernel)
theorem w202 : Cond.fieldLinkNest "BoxPacker" 182 "BoxPacker$Solid" "shift" "I" "BoxPacker" ∈ TS := hv_ts (i := 239) (by decide +kernel) (by decide +kernel)
theorem w203 : Cond.laysFinal "BoxPacker$Solid" "BoxPacker$Solid" "tag" "I" ∈ TS := hv_ts (i := 240) (by decide +kernel) (by decide +kernel)
theorem w205 : Cond.laysFinal "BoxPacker$Solid" "BoxPacker$Solid" "width" "I" ∈ TS := hv_ts (i := 242) (by decide +kernel) (by decide +kernel)
theorem w207 : Cond.laysFinal "BoxPacker$Solid" "BoxPacker$Solid" "height" "I" ∈ TS := hv_ts (i := 244) (by decide +kernel) (by decide +kernel)
theorem w209 : Cond.laysFinal "BoxPacker$Solid" "BoxPacker$Solid" "depth" "I" ∈ TS := hv_ts (i := 246) (by decide +kernel) (by decide +kernel)
theorem w211 : Cond.laysFinal "BoxPacker$Solid" "BoxPacker$Solid" "inner" "LBoxPacker$Box;" ∈ TS := hv_ts (i := 248) (by decide +kernel) (by decide +kernel)
theorem w213 : Cond.laysFinal "BoxPacker$Solid" "BoxPacker$Solid" "shift" "I" ∈ TS := hv_ts (i := 250) (by decide +kernel) (by decide +kernel)
theorem w215 : Cond.superclass "BoxPacker$Solid" "BoxPacker$Item" ∈ TS := hv_ts (i := 252) (by decide +kernel) (by decide +kernel)
theorem w216 : Cond.methodLink "BoxPacker" 57 ⟨"BoxPacker", "append", "(LBoxPacker$Item;)I"⟩ ∈ TS := hv_ts (i := 253) (by decide +kernel) (by decide +kernel)
theorem w218 : Cond.instanceMethod ⟨"BoxPacker", "append", "(LBoxPacker$Item;)I"⟩ ∈ TS := hv_ts (i := 255) (by decide +kernel) (by decide +kernel)
theorem w219 : Cond.code ⟨"BoxPacker", "append", "(LBoxPacker$Item;)I"⟩ prog_1_method_16_code 3 (some FieldType.int) ∈ TS := hv_ts (i := 256) (by decide +kernel) (by decide +kernel)
theorem w220 : Cond.methodLink "BoxPackerLaw" 68 ⟨"BoxPackerLaw", "rule", "(LBoxPacker;III[J)I"⟩ ∈ TS := hv_ts (i := 257) (by decide +kernel) (by decide +kernel)
theorem w221 : Cond.static ⟨"BoxPackerLaw", "rule", "(LBoxPacker;III[J)I"⟩ ∈ TS := hv_ts (i := 258) (by decide +kernel) (by decide +kernel)
theorem w222 : Cond.codeWith ⟨"BoxPackerLaw", "rule", "(LBoxPacker;III[J)I"⟩ method_4_code 6 (some FieldType.int) [(0, 12, 15, 13), (0, 12, 19, 15)] ∈ TS := hv_ts (i := 259) (by decide +kernel) (by decide +kernel)
theorem w223 : Cond.methodLink "BoxPackerLaw" 17 ⟨"BoxPacker", "rule", "(III)I"⟩ ∈ TS := hv_ts (i := 260) (by decide +kernel) (by decide +kernel)
theorem w224 : Cond.instanceMethod ⟨"BoxPacker", "rule", "(III)I"⟩ ∈ TS := hv_ts (i := 261) (by decide +kernel) (by decide +kernel)
theorem w225 : Cond.selects "BoxPacker" ⟨"BoxPacker", "rule", "(III)I"⟩ ⟨"BoxPacker", "rule", "(III)I"⟩ ∈ TS := hv_ts (i := 262) (by decide +kernel) (by decide +kernel)
theorem w226 : Cond.code ⟨"BoxPacker", "rule", "(III)I"⟩ prog_1_method_3_code 4 (some FieldType.int) ∈ TS := hv_ts (i := 263) (by decide +kernel) (by decide +kernel)
theorem w227 : Cond.methodLink "BoxPacker" 61 ⟨"BoxPacker", "isSizeOrRunning", "(I)Z"⟩ ∈ TS := hv_ts (i := 264) (by decide +kernel) (by decide +kernel)
theorem w228 : Cond.static ⟨"BoxPacker", "isSizeOrRunning", "(I)Z"⟩ ∈ TS := hv_ts (i := 265) (by decide +kernel) (by decide +kernel)
theorem w229 : Cond.code ⟨"BoxPacker", "isSizeOrRunning", "(I)Z"⟩ prog_1_method_21_code 1 (some FieldType.boolean) ∈ TS := hv_ts (i := 266) (by decide +kernel) (by decide +kernel)
theorem w230 : Cond.constant "BoxPacker" 210 (-1073741824) ∈ TS := hv_ts (i := 267) (by decide +kernel) (by decide +kernel)
theorem w232 : Cond.methodLink "BoxPackerLaw" 72 ⟨"BoxPackerLaw", "glue", "(LBoxPacker;IIIII[J)I"⟩ ∈ TS := hv_ts (i := 269) (by decide +kernel) (by decide +kernel)
theorem w233 : Cond.static ⟨"BoxPackerLaw", "glue", "(LBoxPacker;IIIII[J)I"⟩ ∈ TS := hv_ts (i := 270) (by decide +kernel) (by decide +kernel)
theorem w234 : Cond.codeWith ⟨"BoxPackerLaw", "glue", "(LBoxPacker;IIIII[J)I"⟩ method_5_code 8 (some FieldType.int) [(0, 16, 19, 13), (0, 16, 23, 15)] ∈ TS := hv_ts (i := 271) (by decide +kernel) (by decide +kernel)
theorem w235 : Cond.methodLink "BoxPackerLaw" 21 ⟨"BoxPacker", "glue", "(IIIII)I"⟩ ∈ TS := hv_ts (i := 272) (by decide +kernel) (by decide +kernel)
theorem w236 : Cond.instanceMethod ⟨"BoxPacker", "glue", "(IIIII)I"⟩ ∈ TS := hv_ts (i := 273) (by decide +kernel) (by decide +kernel)
theorem w237 : Cond.selects "BoxPacker" ⟨"BoxPacker", "glue", "(IIIII)I"⟩ ⟨"BoxPacker", "glue", "(IIIII)I"⟩ ∈ TS := hv_ts (i := 274) (by decide +kernel) (by decide +kernel)
theorem w238 : Cond.code ⟨"BoxPacker", "glue", "(IIIII)I"⟩ prog_1_method_4_code 6 (some FieldType.int) ∈ TS := hv_ts (i := 275) (by decide +kernel) (by decide +kernel)
theorem w241 : Cond.methodLink "BoxPacker" 71 ⟨"BoxPacker", "isOrder", "(I)Z"⟩ ∈ TS := hv_ts (i := 278) (by decide +kernel) (by decide +kernel)
theorem w242 : Cond.static ⟨"BoxPacker", "isOrder", "(I)Z"⟩ ∈ TS := hv_ts (i := 279) (by decide +kernel) (by decide +kernel)
theorem w243 : Cond.code ⟨"BoxPacker", "isOrder", "(I)Z"⟩ prog_1_method_22_code 1 (some FieldType.boolean) ∈ TS := hv_ts (i := 280) (by decide +kernel) (by decide +kernel)
theorem w245 : Cond.classLink "BoxPacker" 76 "BoxPacker$Space" ∈ TS := hv_ts (i := 282) (by decide +kernel) (by decide +kernel)
theorem w246 : Cond.instantiable "BoxPacker$Space" 5 ∈ TS := hv_ts (i := 283) (by decide +kernel) (by decide +kernel)
theorem w247 : Cond.methodLinkNest "BoxPacker" 78 ⟨"BoxPacker$Space", "<init>", "(IIIII)V"⟩ "BoxPacker" ∈ TS := hv_ts (i := 284) (by decide +kernel) (by decide +kernel)
theorem w248 : Cond.instanceMethod ⟨"BoxPacker$Space", "<init>", "(IIIII)V"⟩ ∈ TS := hv_ts (i := 285) (by decide +kernel) (by decide +kernel)
theorem w249 : Cond.code ⟨"BoxPacker$Space", "<init>", "(IIIII)V"⟩ prog_6_method_1_code 6 none ∈ TS := hv_ts (i := 286) (by decide +kernel) (by decide +kernel)
theorem w250 : Cond.methodLinkNest "BoxPacker$Space" 1 ⟨"BoxPacker$Item", "<init>", "()V"⟩ "BoxPacker" ∈ TS := hv_ts (i := 287) (by decide +kernel) (by decide +kernel)
theorem w251 : Cond.fieldLink "BoxPacker$Space" 7 "BoxPacker$Space" "width" "I" ∈ TS := hv_ts (i := 288) (by decide +kernel) (by decide +kernel)
theorem w252 : Cond.fieldLinkNest "BoxPacker$Box" 107 "BoxPacker$Space" "width" "I" "BoxPacker" ∈ TS := hv_ts (i := 289) (by decide +kernel) (by decide +kernel)
theorem w253 : Cond.fieldLink "BoxPacker$Space" 13 "BoxPacker$Space" "stretch" "I" ∈ TS := hv_ts (i := 290) (by decide +kernel) (by decide +kernel)
theorem w254 : Cond.fieldLink "BoxPacker$Space" 16 "BoxPacker$Space" "stretchOrder" "I" ∈ TS := hv_ts (i := 291) (by decide +kernel) (by decide +kernel)
theorem w255 : Cond.fieldLink "BoxPacker$Space" 19 "BoxPacker$Space" "shrink" "I" ∈ TS := hv_ts (i := 292) (by decide +kernel) (by decide +kernel)
theorem w256 : Cond.fieldLink "BoxPacker$Space" 22 "BoxPacker$Space" "shrinkOrder" "I" ∈ TS := hv_ts (i := 293) (by decide +kernel) (by decide +kernel)
theorem w257 : Cond.laysFinal "BoxPacker$Space" "BoxPacker$Space" "width" "I" ∈ TS := hv_ts (i := 294) (by decide +kernel) (by decide +kernel)
theorem w259 : Cond.laysFinal "BoxPacker$Space" "BoxPacker$Space" "stretch" "I" ∈ TS := hv_ts (i := 296) (by decide +kernel) (by decide +kernel)
theorem w261 : Cond.laysFinal "BoxPacker$Space" "BoxPacker$Space" "stretchOrder" "I" ∈ TS := hv_ts (i := 298) (by decide +kernel) (by decide +kernel)
theorem w263 : Cond.laysFinal "BoxPacker$Space" "BoxPacker$Space" "shrink" "I" ∈ TS := hv_ts (i := 300) (by decide +kernel) (by decide +kernel)
theorem w265 : Cond.laysFinal "BoxPacker$Space" "BoxPacker$Space" "shrinkOrder" "I" ∈ TS := hv_ts (i := 302) (by decide +kernel) (by decide +kernel)
theorem w267 : Cond.superclass "BoxPacker$Space" "BoxPacker$Item" ∈ TS := hv_ts (i := 304) (by decide +kernel) (by decide +kernel)
theorem w268 : Cond.methodLink "BoxPackerLaw" 76 ⟨"BoxPackerLaw", "kern", "(LBoxPacker;I[J)I"⟩ ∈ TS := hv_ts (i := 305) (by decide +kernel) (by decide +kernel)
theorem w269 : Cond.static ⟨"BoxPackerLaw", "kern", "(LBoxPacker;I[J)I"⟩ ∈ TS := hv_ts (i := 306) (by decide +kernel) (by decide +kernel)
theorem w270 : Cond.codeWith ⟨"BoxPackerLaw", "kern", "(LBoxPacker;I[J)I"⟩ method_6_code 4 (some FieldType.int) [(0, 9, 12, 13), (0, 9, 15, 15)] ∈ TS := hv_ts (i := 307) (by decide +kernel) (by decide +kernel)
theorem w271 : Cond.methodLink "BoxPackerLaw" 25 ⟨"BoxPacker", "kern", "(I)I"⟩ ∈ TS := hv_ts (i := 308) (by decide +kernel) (by decide +kernel)
theorem w272 : Cond.instanceMethod ⟨"BoxPacker", "kern", "(I)I"⟩ ∈ TS := hv_ts (i := 309) (by decide +kernel) (by decide +kernel)
theorem w273 : Cond.selects "BoxPacker" ⟨"BoxPacker", "kern", "(I)I"⟩ ⟨"BoxPacker", "kern", "(I)I"⟩ ∈ TS := hv_ts (i := 310) (by decide +kernel) (by decide +kernel)
theorem w274 : Cond.code ⟨"BoxPacker", "kern", "(I)I"⟩ prog_1_method_5_code 2 (some FieldType.int) ∈ TS := hv_ts (i := 311) (by decide +kernel) (by decide +kernel)
theorem w275 : Cond.methodLink "BoxPackerLaw" 80 ⟨"BoxPackerLaw", "box", "(LBoxPacker;II[J)I"⟩ ∈ TS := hv_ts (i := 312) (by decide +kernel) (by decide +kernel)
theorem w276 : Cond.static ⟨"BoxPackerLaw", "box", "(LBoxPacker;II[J)I"⟩ ∈ TS := hv_ts (i := 313) (by decide +kernel) (by decide +kernel)
theorem w277 : Cond.codeWith ⟨"BoxPackerLaw", "box", "(LBoxPacker;II[J)I"⟩ method_7_code 5 (some FieldType.int) [(0, 10, 13, 33), (0, 10, 17, 13), (0, 10, 21, 15)] ∈ TS := hv_ts (i := 314) (by decide +kernel) (by decide +kernel)
theorem w278 : Cond.classLink "BoxPackerLaw" 33 "java/lang/IndexOutOfBoundsException" ∈ TS := hv_ts (i := 315) (by decide +kernel) (by decide +kernel)
theorem w279 : Cond.methodLink "BoxPackerLaw" 29 ⟨"BoxPacker", "box", "(II)I"⟩ ∈ TS := hv_ts (i := 316) (by decide +kernel) (by decide +kernel)
theorem w280 : Cond.instanceMethod ⟨"BoxPacker", "box", "(II)I"⟩ ∈ TS := hv_ts (i := 317) (by decide +kernel) (by decide +kernel)
theorem w281 : Cond.selects "BoxPacker" ⟨"BoxPacker", "box", "(II)I"⟩ ⟨"BoxPacker", "box", "(II)I"⟩ ∈ TS := hv_ts (i := 318) (by decide +kernel) (by decide +kernel)
theorem w282 : Cond.code ⟨"BoxPacker", "box", "(II)I"⟩ prog_1_method_6_code 4 (some FieldType.int) ∈ TS := hv_ts (i := 319) (by decide +kernel) (by decide +kernel)
theorem w283 : Cond.methodLink "BoxPacker" 81 ⟨"BoxPacker", "boxNumbered", "(I)LBoxPacker$Box;"⟩ ∈ TS := hv_ts (i := 320) (by decide +kernel) (by decide +kernel)
theorem w285 : Cond.instanceMethod ⟨"BoxPacker", "boxNumbered", "(I)LBoxPacker$Box;"⟩ ∈ TS := hv_ts (i := 322) (by decide +kernel) (by decide +kernel)
theorem w286 : Cond.code ⟨"BoxPacker", "boxNumbered", "(I)LBoxPacker$Box;"⟩ prog_1_method_17_code 2 (some (FieldType.object "BoxPacker$Box")) ∈ TS := hv_ts (i := 323) (by decide +kernel) (by decide +kernel)
theorem w287 : Cond.classLink "BoxPacker" 139 "java/lang/IndexOutOfBoundsException" ∈ TS := hv_ts (i := 324) (by decide +kernel) (by decide +kernel)
theorem w288 : Cond.instantiable "java/lang/IndexOutOfBoundsException" 6 ∈ TS := hv_ts (i := 325) (by decide +kernel) (by decide +kernel)
theorem w289 : Cond.castable "java/lang/IndexOutOfBoundsException" "java/lang/IndexOutOfBoundsException" ∈ TS := hv_ts (i := 326) (by decide +kernel) (by decide +kernel)
theorem w290 : Cond.selects "java/lang/IndexOutOfBoundsException" ⟨"java/lang/Throwable", "fillInStackTrace", "(I)Ljava/lang/Throwable;"⟩ ⟨"java/lang/Throwable", "fillInStackTrace", "(I)Ljava/lang/Throwable;"⟩ ∈ TS := hv_ts (i := 327) (by decide +kernel) (by decide +kernel)
theorem w291 : Cond.lays "java/lang/IndexOutOfBoundsException" "java/lang/Throwable" "cause" "Ljava/lang/Throwable;" ∈ TS := hv_ts (i := 328) (by decide +kernel) (by decide +kernel)
theorem w292 : Cond.lays "java/lang/IndexOutOfBoundsException" "java/lang/Throwable" "stackTrace" "[Ljava/lang/StackTraceElement;" ∈ TS := hv_ts (i := 329) (by decide +kernel) (by decide +kernel)
theorem w293 : Cond.lays "java/lang/IndexOutOfBoundsException" "java/lang/Throwable" "suppressedExceptions" "Ljava/util/List;" ∈ TS := hv_ts (i := 330) (by decide +kernel) (by decide +kernel)
theorem w294 : Cond.lays "java/lang/IndexOutOfBoundsException" "java/lang/Throwable" "detailMessage" "Ljava/lang/String;" ∈ TS := hv_ts (i := 331) (by decide +kernel) (by decide +kernel)
theorem w295 : Cond.lays "java/lang/IndexOutOfBoundsException" "java/lang/Throwable" "backtrace" "Ljava/lang/Object;" ∈ TS := hv_ts (i := 332) (by decide +kernel) (by decide +kernel)
theorem w297 : Cond.methodLink "BoxPacker" 143 ⟨"java/lang/IndexOutOfBoundsException", "<init>", "(Ljava/lang/String;)V"⟩ ∈ TS := hv_ts (i := 334) (by decide +kernel) (by decide +kernel)
theorem w298 : Cond.instanceMethod ⟨"java/lang/IndexOutOfBoundsException", "<init>", "(Ljava/lang/String;)V"⟩ ∈ TS := hv_ts (i := 335) (by decide +kernel) (by decide +kernel)
theorem w299 : Cond.code ⟨"java/lang/IndexOutOfBoundsException", "<init>", "(Ljava/lang/String;)V"⟩ prog_12_method_2_code 2 none ∈ TS := hv_ts (i := 336) (by decide +kernel) (by decide +kernel)
theorem w300 : Cond.methodLink "java/lang/IndexOutOfBoundsException" 7 ⟨"java/lang/RuntimeException", "<init>", "(Ljava/lang/String;)V"⟩ ∈ TS := hv_ts (i := 337) (by decide +kernel) (by decide +kernel)
theorem w301 : Cond.lays "java/lang/IndexOutOfBoundsException" "java/lang/Throwable" "depth" "I" ∈ TS := hv_ts (i := 338) (by decide +kernel) (by decide +kernel)
theorem w302 : Cond.superclass "java/lang/IndexOutOfBoundsException" "java/lang/RuntimeException" ∈ TS := hv_ts (i := 339) (by decide +kernel) (by decide +kernel)
theorem w304 : Cond.methodLink "BoxPackerLaw" 93 ⟨"BoxPackerLaw", "pack", "(LBoxPacker;ZIII[J)I"⟩ ∈ TS := hv_ts (i := 341) (by decide +kernel) (by decide +kernel)
theorem w305 : Cond.static ⟨"BoxPackerLaw", "pack", "(LBoxPacker;ZIII[J)I"⟩ ∈ TS := hv_ts (i := 342) (by decide +kernel) (by decide +kernel)
theorem w306 : Cond.codeWith ⟨"BoxPackerLaw", "pack", "(LBoxPacker;ZIII[J)I"⟩ method_8_code 7 (some FieldType.int) [(0, 14, 17, 13), (0, 14, 21, 15), (0, 14, 25, 39)] ∈ TS := hv_ts (i := 343) (by decide +kernel) (by decide +kernel)
theorem w307 : Cond.classLink "BoxPackerLaw" 39 "java/lang/IllegalStateException" ∈ TS := hv_ts (i := 344) (by decide +kernel) (by decide +kernel)
theorem w308 : Cond.methodLink "BoxPackerLaw" 35 ⟨"BoxPacker", "pack", "(ZIII)I"⟩ ∈ TS := hv_ts (i := 345) (by decide +kernel) (by decide +kernel)
theorem w309 : Cond.instanceMethod ⟨"BoxPacker", "pack", "(ZIII)I"⟩ ∈ TS := hv_ts (i := 346) (by decide +kernel) (by decide +kernel)
theorem w310 : Cond.selects "BoxPacker" ⟨"BoxPacker", "pack", "(ZIII)I"⟩ ⟨"BoxPacker", "pack", "(ZIII)I"⟩ ∈ TS := hv_ts (i := 347) (by decide +kernel) (by decide +kernel)
theorem w311 : Cond.code ⟨"BoxPacker", "pack", "(ZIII)I"⟩ prog_1_method_9_code 7 (some FieldType.int) ∈ TS := hv_ts (i := 348) (by decide +kernel) (by decide +kernel)
theorem w315 : Cond.instantiable "BoxPacker$Box" 12 ∈ TS := hv_ts (i := 352) (by decide +kernel) (by decide +kernel)
theorem w316 : Cond.methodLinkNest "BoxPacker" 105 ⟨"BoxPacker$Box", "<init>", "(Z[LBoxPacker$Item;I)V"⟩ "BoxPacker" ∈ TS := hv_ts (i := 353) (by decide +kernel) (by decide +kernel)
theorem w317 : Cond.instanceMethod ⟨"BoxPacker$Box", "<init>", "(Z[LBoxPacker$Item;I)V"⟩ ∈ TS := hv_ts (i := 354) (by decide +kernel) (by decide +kernel)
theorem w318 : Cond.code ⟨"BoxPacker$Box", "<init>", "(Z[LBoxPacker$Item;I)V"⟩ prog_2_method_1_code 9 none ∈ TS := hv_ts (i := 355) (by decide +kernel) (by decide +kernel)
theorem w319 : Cond.methodLink "BoxPacker$Box" 3 ⟨"java/lang/Object", "<init>", "()V"⟩ ∈ TS := hv_ts (i := 356) (by decide +kernel) (by decide +kernel)
theorem w320 : Cond.classLink "BoxPacker$Box" 37 "BoxPacker$Item" ∈ TS := hv_ts (i := 357) (by decide +kernel) (by decide +kernel)
theorem w321 : Cond.classLink "BoxPacker$Box" 47 "BoxPacker$Solid" ∈ TS := hv_ts (i := 358) (by decide +kernel) (by decide +kernel)
theorem w322 : Cond.methodLink "BoxPacker$Box" 56 ⟨"java/lang/Math", "max", "(II)I"⟩ ∈ TS := hv_ts (i := 359) (by decide +kernel) (by decide +kernel)
theorem w323 : Cond.static ⟨"java/lang/Math", "max", "(II)I"⟩ ∈ TS := hv_ts (i := 360) (by decide +kernel) (by decide +kernel)
theorem w324 : Cond.code ⟨"java/lang/Math", "max", "(II)I"⟩ prog_13_method_65_code 2 (some FieldType.int) ∈ TS := hv_ts (i := 361) (by decide +kernel) (by decide +kernel)
theorem w325 : Cond.constant "BoxPacker$Box" 62 1000000 ∈ TS := hv_ts (i := 362) (by decide +kernel) (by decide +kernel)
theorem w326 : Cond.methodLink "BoxPacker$Box" 66 ⟨"java/lang/Math", "min", "(II)I"⟩ ∈ TS := hv_ts (i := 363) (by decide +kernel) (by decide +kernel)
theorem w327 : Cond.static ⟨"java/lang/Math", "min", "(II)I"⟩ ∈ TS := hv_ts (i := 364) (by decide +kernel) (by decide +kernel)
theorem w328 : Cond.code ⟨"java/lang/Math", "min", "(II)I"⟩ prog_13_method_69_code 2 (some FieldType.int) ∈ TS := hv_ts (i := 365) (by decide +kernel) (by decide +kernel)
theorem w329 : Cond.fieldLink "BoxPacker$Box" 33 "BoxPacker$Box" "below" "Z" ∈ TS := hv_ts (i := 366) (by decide +kernel) (by decide +kernel)
theorem w330 : Cond.fieldLinkNest "BoxPacker" 178 "BoxPacker$Box" "below" "Z" "BoxPacker" ∈ TS := hv_ts (i := 367) (by decide +kernel) (by decide +kernel)
theorem w331 : Cond.fieldLink "BoxPacker$Box" 39 "BoxPacker$Box" "content" "[LBoxPacker$Item;" ∈ TS := hv_ts (i := 368) (by decide +kernel) (by decide +kernel)
theorem w332 : Cond.fieldLinkNest "BoxPacker" 133 "BoxPacker$Box" "content" "[LBoxPacker$Item;" "BoxPacker" ∈ TS := hv_ts (i := 369) (by decide +kernel) (by decide +kernel)
theorem w333 : Cond.fieldLink "BoxPacker$Box" 43 "BoxPacker$Box" "places" "[I" ∈ TS := hv_ts (i := 370) (by decide +kernel) (by decide +kernel)
theorem w334 : Cond.fieldLinkNest "BoxPacker" 144 "BoxPacker$Box" "places" "[I" "BoxPacker" ∈ TS := hv_ts (i := 371) (by decide +kernel) (by decide +kernel)
theorem w335 : Cond.fieldLink "BoxPacker$Box" 53 "BoxPacker$Box" "deep" "I" ∈ TS := hv_ts (i := 372) (by decide +kernel) (by decide +kernel)
theorem w336 : Cond.fieldLinkNest "BoxPacker" 108 "BoxPacker$Box" "deep" "I" "BoxPacker" ∈ TS := hv_ts (i := 373) (by decide +kernel) (by decide +kernel)
theorem w337 : Cond.fieldLink "BoxPacker$Box" 63 "BoxPacker$Box" "inAll" "I" ∈ TS := hv_ts (i := 374) (by decide +kernel) (by decide +kernel)
theorem w338 : Cond.fieldLinkNest "BoxPacker" 136 "BoxPacker$Box" "inAll" "I" "BoxPacker" ∈ TS := hv_ts (i := 375) (by decide +kernel) (by decide +kernel)
theorem w339 : Cond.fieldLink "BoxPacker$Box" 9 "BoxPacker$Box" "width" "I" ∈ TS := hv_ts (i := 376) (by decide +kernel) (by decide +kernel)
theorem w340 : Cond.fieldLinkNest "BoxPacker" 87 "BoxPacker$Box" "width" "I" "BoxPacker" ∈ TS := hv_ts (i := 377) (by decide +kernel) (by decide +kernel)
theorem w341 : Cond.fieldLink "BoxPacker$Box" 15 "BoxPacker$Box" "height" "I" ∈ TS := hv_ts (i := 378) (by decide +kernel) (by decide +kernel)
theorem w342 : Cond.fieldLinkNest "BoxPacker" 90 "BoxPacker$Box" "height" "I" "BoxPacker" ∈ TS := hv_ts (i := 379) (by decide +kernel) (by decide +kernel)
theorem w343 : Cond.fieldLink "BoxPacker$Box" 18 "BoxPacker$Box" "depth" "I" ∈ TS := hv_ts (i := 380) (by decide +kernel) (by decide +kernel)
end
section
theorem w344 : Cond.fieldLinkNest "BoxPacker" 93 "BoxPacker$Box" "depth" "I" "BoxPacker" ∈ TS := hv_ts (i := 381) (by decide +kernel) (by decide +kernel)
theorem w345 : Cond.fieldLink "BoxPacker$Box" 21 "BoxPacker$Box" "excess" "I" ∈ TS := hv_ts (i := 382) (by decide +kernel) (by decide +kernel)
theorem w346 : Cond.fieldLinkNest "BoxPacker" 117 "BoxPacker$Box" "excess" "I" "BoxPacker" ∈ TS := hv_ts (i := 383) (by decide +kernel) (by decide +kernel)
theorem w347 : Cond.fieldLink "BoxPacker$Box" 24 "BoxPacker$Box" "order" "I" ∈ TS := hv_ts (i := 384) (by decide +kernel) (by decide +kernel)
theorem w348 : Cond.fieldLinkNest "BoxPacker" 120 "BoxPacker$Box" "order" "I" "BoxPacker" ∈ TS := hv_ts (i := 385) (by decide +kernel) (by decide +kernel)
theorem w349 : Cond.fieldLink "BoxPacker$Box" 27 "BoxPacker$Box" "total" "I" ∈ TS := hv_ts (i := 386) (by decide +kernel) (by decide +kernel)
theorem w350 : Cond.fieldLinkNest "BoxPacker" 123 "BoxPacker$Box" "total" "I" "BoxPacker" ∈ TS := hv_ts (i := 387) (by decide +kernel) (by decide +kernel)
theorem w351 : Cond.fieldLink "BoxPacker$Box" 30 "BoxPacker$Box" "overfull" "I" ∈ TS := hv_ts (i := 388) (by decide +kernel) (by decide +kernel)
theorem w352 : Cond.fieldLinkNest "BoxPacker" 130 "BoxPacker$Box" "overfull" "I" "BoxPacker" ∈ TS := hv_ts (i := 389) (by decide +kernel) (by decide +kernel)
theorem w353 : Cond.laysFinal "BoxPacker$Box" "BoxPacker$Box" "below" "Z" ∈ TS := hv_ts (i := 390) (by decide +kernel) (by decide +kernel)
theorem w355 : Cond.laysFinal "BoxPacker$Box" "BoxPacker$Box" "content" "[LBoxPacker$Item;" ∈ TS := hv_ts (i := 392) (by decide +kernel) (by decide +kernel)
theorem w357 : Cond.laysFinal "BoxPacker$Box" "BoxPacker$Box" "places" "[I" ∈ TS := hv_ts (i := 394) (by decide +kernel) (by decide +kernel)
theorem w359 : Cond.laysFinal "BoxPacker$Box" "BoxPacker$Box" "deep" "I" ∈ TS := hv_ts (i := 396) (by decide +kernel) (by decide +kernel)
theorem w361 : Cond.laysFinal "BoxPacker$Box" "BoxPacker$Box" "inAll" "I" ∈ TS := hv_ts (i := 398) (by decide +kernel) (by decide +kernel)
theorem w363 : Cond.lays "BoxPacker$Box" "BoxPacker$Box" "width" "I" ∈ TS := hv_ts (i := 400) (by decide +kernel) (by decide +kernel)
theorem w365 : Cond.lays "BoxPacker$Box" "BoxPacker$Box" "height" "I" ∈ TS := hv_ts (i := 402) (by decide +kernel) (by decide +kernel)
theorem w367 : Cond.lays "BoxPacker$Box" "BoxPacker$Box" "depth" "I" ∈ TS := hv_ts (i := 404) (by decide +kernel) (by decide +kernel)
theorem w369 : Cond.lays "BoxPacker$Box" "BoxPacker$Box" "excess" "I" ∈ TS := hv_ts (i := 406) (by decide +kernel) (by decide +kernel)
theorem w371 : Cond.lays "BoxPacker$Box" "BoxPacker$Box" "order" "I" ∈ TS := hv_ts (i := 408) (by decide +kernel) (by decide +kernel)
theorem w373 : Cond.lays "BoxPacker$Box" "BoxPacker$Box" "total" "I" ∈ TS := hv_ts (i := 410) (by decide +kernel) (by decide +kernel)
theorem w375 : Cond.lays "BoxPacker$Box" "BoxPacker$Box" "overfull" "I" ∈ TS := hv_ts (i := 412) (by decide +kernel) (by decide +kernel)
theorem w377 : Cond.superclass "BoxPacker$Box" "java/lang/Object" ∈ TS := hv_ts (i := 414) (by decide +kernel) (by decide +kernel)
theorem w378 : Cond.arrayClass FieldType.int ∈ TS := hv_ts (i := 415) (by decide +kernel) (by decide +kernel)
theorem w380 : Cond.methodLinkNest "BoxPacker" 113 ⟨"BoxPacker$Box", "fit", "(III)V"⟩ "BoxPacker" ∈ TS := hv_ts (i := 417) (by decide +kernel) (by decide +kernel)
theorem w382 : Cond.instanceMethod ⟨"BoxPacker$Box", "fit", "(III)V"⟩ ∈ TS := hv_ts (i := 419) (by decide +kernel) (by decide +kernel)
theorem w383 : Cond.code ⟨"BoxPacker$Box", "fit", "(III)V"⟩ prog_2_method_2_code 6 none ∈ TS := hv_ts (i := 420) (by decide +kernel) (by decide +kernel)
theorem w384 : Cond.methodLink "BoxPacker$Box" 69 ⟨"BoxPacker$Box", "measureBelow", "(I)V"⟩ ∈ TS := hv_ts (i := 421) (by decide +kernel) (by decide +kernel)
theorem w386 : Cond.instanceMethod ⟨"BoxPacker$Box", "measureBelow", "(I)V"⟩ ∈ TS := hv_ts (i := 423) (by decide +kernel) (by decide +kernel)
theorem w387 : Cond.code ⟨"BoxPacker$Box", "measureBelow", "(I)V"⟩ prog_2_method_4_code 6 none ∈ TS := hv_ts (i := 424) (by decide +kernel) (by decide +kernel)
theorem w388 : Cond.methodLinkNest "BoxPacker$Box" 96 ⟨"BoxPacker", "sum", "(JJ)I"⟩ "BoxPacker" ∈ TS := hv_ts (i := 425) (by decide +kernel) (by decide +kernel)
theorem w389 : Cond.static ⟨"BoxPacker", "sum", "(JJ)I"⟩ ∈ TS := hv_ts (i := 426) (by decide +kernel) (by decide +kernel)
theorem w390 : Cond.code ⟨"BoxPacker", "sum", "(JJ)I"⟩ prog_1_method_25_code 6 (some FieldType.int) ∈ TS := hv_ts (i := 427) (by decide +kernel) (by decide +kernel)
theorem w391 : Cond.classLink "BoxPacker" 211 "java/lang/IllegalStateException" ∈ TS := hv_ts (i := 428) (by decide +kernel) (by decide +kernel)
theorem w392 : Cond.instantiable "java/lang/IllegalStateException" 6 ∈ TS := hv_ts (i := 429) (by decide +kernel) (by decide +kernel)
theorem w393 : Cond.castable "java/lang/IllegalStateException" "java/lang/IllegalStateException" ∈ TS := hv_ts (i := 430) (by decide +kernel) (by decide +kernel)
theorem w394 : Cond.selects "java/lang/IllegalStateException" ⟨"java/lang/Throwable", "fillInStackTrace", "(I)Ljava/lang/Throwable;"⟩ ⟨"java/lang/Throwable", "fillInStackTrace", "(I)Ljava/lang/Throwable;"⟩ ∈ TS := hv_ts (i := 431) (by decide +kernel) (by decide +kernel)
theorem w395 : Cond.lays "java/lang/IllegalStateException" "java/lang/Throwable" "cause" "Ljava/lang/Throwable;" ∈ TS := hv_ts (i := 432) (by decide +kernel) (by decide +kernel)
theorem w396 : Cond.lays "java/lang/IllegalStateException" "java/lang/Throwable" "stackTrace" "[Ljava/lang/StackTraceElement;" ∈ TS := hv_ts (i := 433) (by decide +kernel) (by decide +kernel)
theorem w397 : Cond.lays "java/lang/IllegalStateException" "java/lang/Throwable" "suppressedExceptions" "Ljava/util/List;" ∈ TS := hv_ts (i := 434) (by decide +kernel) (by decide +kernel)
theorem w398 : Cond.lays "java/lang/IllegalStateException" "java/lang/Throwable" "detailMessage" "Ljava/lang/String;" ∈ TS := hv_ts (i := 435) (by decide +kernel) (by decide +kernel)
theorem w399 : Cond.lays "java/lang/IllegalStateException" "java/lang/Throwable" "backtrace" "Ljava/lang/Object;" ∈ TS := hv_ts (i := 436) (by decide +kernel) (by decide +kernel)
theorem w401 : Cond.methodLink "BoxPacker" 215 ⟨"java/lang/IllegalStateException", "<init>", "(Ljava/lang/String;)V"⟩ ∈ TS := hv_ts (i := 438) (by decide +kernel) (by decide +kernel)
theorem w402 : Cond.instanceMethod ⟨"java/lang/IllegalStateException", "<init>", "(Ljava/lang/String;)V"⟩ ∈ TS := hv_ts (i := 439) (by decide +kernel) (by decide +kernel)
theorem w403 : Cond.code ⟨"java/lang/IllegalStateException", "<init>", "(Ljava/lang/String;)V"⟩ prog_11_method_2_code 2 none ∈ TS := hv_ts (i := 440) (by decide +kernel) (by decide +kernel)
theorem w404 : Cond.methodLink "java/lang/IllegalStateException" 7 ⟨"java/lang/RuntimeException", "<init>", "(Ljava/lang/String;)V"⟩ ∈ TS := hv_ts (i := 441) (by decide +kernel) (by decide +kernel)
theorem w405 : Cond.lays "java/lang/IllegalStateException" "java/lang/Throwable" "depth" "I" ∈ TS := hv_ts (i := 442) (by decide +kernel) (by decide +kernel)
theorem w406 : Cond.superclass "java/lang/IllegalStateException" "java/lang/RuntimeException" ∈ TS := hv_ts (i := 443) (by decide +kernel) (by decide +kernel)
theorem w407 : Cond.methodLinkNest "BoxPacker$Box" 92 ⟨"BoxPacker", "known", "(I)I"⟩ "BoxPacker" ∈ TS := hv_ts (i := 444) (by decide +kernel) (by decide +kernel)
theorem w408 : Cond.static ⟨"BoxPacker", "known", "(I)I"⟩ ∈ TS := hv_ts (i := 445) (by decide +kernel) (by decide +kernel)
theorem w409 : Cond.code ⟨"BoxPacker", "known", "(I)I"⟩ prog_1_method_24_code 1 (some FieldType.int) ∈ TS := hv_ts (i := 446) (by decide +kernel) (by decide +kernel)
theorem w410 : Cond.methodLink "BoxPacker" 195 ⟨"BoxPacker", "known", "(II)I"⟩ ∈ TS := hv_ts (i := 447) (by decide +kernel) (by decide +kernel)
theorem w411 : Cond.static ⟨"BoxPacker", "known", "(II)I"⟩ ∈ TS := hv_ts (i := 448) (by decide +kernel) (by decide +kernel)
theorem w412 : Cond.code ⟨"BoxPacker", "known", "(II)I"⟩ prog_1_method_23_code 2 (some FieldType.int) ∈ TS := hv_ts (i := 449) (by decide +kernel) (by decide +kernel)
theorem w413 : Cond.classLink "BoxPacker$Box" 105 "BoxPacker$Space" ∈ TS := hv_ts (i := 450) (by decide +kernel) (by decide +kernel)
theorem w414 : Cond.methodLink "BoxPacker$Box" 73 ⟨"BoxPacker$Box", "measureAlong", "()V"⟩ ∈ TS := hv_ts (i := 451) (by decide +kernel) (by decide +kernel)
theorem w416 : Cond.instanceMethod ⟨"BoxPacker$Box", "measureAlong", "()V"⟩ ∈ TS := hv_ts (i := 453) (by decide +kernel) (by decide +kernel)
theorem w417 : Cond.code ⟨"BoxPacker$Box", "measureAlong", "()V"⟩ prog_2_method_3_code 5 none ∈ TS := hv_ts (i := 454) (by decide +kernel) (by decide +kernel)
theorem w418 : Cond.methodLink "BoxPacker$Box" 76 ⟨"BoxPacker$Box", "gives", "(Z)[I"⟩ ∈ TS := hv_ts (i := 455) (by decide +kernel) (by decide +kernel)
theorem w420 : Cond.instanceMethod ⟨"BoxPacker$Box", "gives", "(Z)[I"⟩ ∈ TS := hv_ts (i := 457) (by decide +kernel) (by decide +kernel)
theorem w421 : Cond.code ⟨"BoxPacker$Box", "gives", "(Z)[I"⟩ prog_2_method_5_code 6 (some (FieldType.array FieldType.int)) ∈ TS := hv_ts (i := 458) (by decide +kernel) (by decide +kernel)
theorem w422 : Cond.methodLinkNest "BoxPacker$Box" 108 ⟨"BoxPacker$Space", "giveOrder", "(Z)I"⟩ "BoxPacker" ∈ TS := hv_ts (i := 459) (by decide +kernel) (by decide +kernel)
theorem w424 : Cond.instanceMethod ⟨"BoxPacker$Space", "giveOrder", "(Z)I"⟩ ∈ TS := hv_ts (i := 461) (by decide +kernel) (by decide +kernel)
theorem w425 : Cond.code ⟨"BoxPacker$Space", "giveOrder", "(Z)I"⟩ prog_6_method_3_code 2 (some FieldType.int) ∈ TS := hv_ts (i := 462) (by decide +kernel) (by decide +kernel)
theorem w426 : Cond.methodLinkNest "BoxPacker$Box" 112 ⟨"BoxPacker$Space", "give", "(Z)I"⟩ "BoxPacker" ∈ TS := hv_ts (i := 463) (by decide +kernel) (by decide +kernel)
theorem w428 : Cond.instanceMethod ⟨"BoxPacker$Space", "give", "(Z)I"⟩ ∈ TS := hv_ts (i := 465) (by decide +kernel) (by decide +kernel)
theorem w429 : Cond.code ⟨"BoxPacker$Space", "give", "(Z)I"⟩ prog_6_method_2_code 2 (some FieldType.int) ∈ TS := hv_ts (i := 466) (by decide +kernel) (by decide +kernel)
theorem w430 : Cond.methodLink "BoxPacker$Box" 80 ⟨"BoxPacker$Box", "fillUp", "(II)V"⟩ ∈ TS := hv_ts (i := 467) (by decide +kernel) (by decide +kernel)
theorem w432 : Cond.instanceMethod ⟨"BoxPacker$Box", "fillUp", "(II)V"⟩ ∈ TS := hv_ts (i := 469) (by decide +kernel) (by decide +kernel)
theorem w433 : Cond.code ⟨"BoxPacker$Box", "fillUp", "(II)V"⟩ prog_2_method_6_code 5 none ∈ TS := hv_ts (i := 470) (by decide +kernel) (by decide +kernel)
theorem w434 : Cond.methodLink "BoxPacker$Box" 84 ⟨"BoxPacker$Box", "findTotal", "([I)V"⟩ ∈ TS := hv_ts (i := 471) (by decide +kernel) (by decide +kernel)
theorem w436 : Cond.instanceMethod ⟨"BoxPacker$Box", "findTotal", "([I)V"⟩ ∈ TS := hv_ts (i := 473) (by decide +kernel) (by decide +kernel)
theorem w437 : Cond.code ⟨"BoxPacker$Box", "findTotal", "([I)V"⟩ prog_2_method_7_code 3 none ∈ TS := hv_ts (i := 474) (by decide +kernel) (by decide +kernel)
theorem w438 : Cond.methodLink "BoxPacker$Box" 88 ⟨"BoxPacker$Box", "addShares", "()V"⟩ ∈ TS := hv_ts (i := 475) (by decide +kernel) (by decide +kernel)
theorem w440 : Cond.instanceMethod ⟨"BoxPacker$Box", "addShares", "()V"⟩ ∈ TS := hv_ts (i := 477) (by decide +kernel) (by decide +kernel)
theorem w441 : Cond.code ⟨"BoxPacker$Box", "addShares", "()V"⟩ prog_2_method_8_code 9 none ∈ TS := hv_ts (i := 478) (by decide +kernel) (by decide +kernel)
theorem w442 : Cond.methodLinkNest "BoxPacker$Box" 115 ⟨"BoxPacker", "dividedToNearest", "(JI)I"⟩ "BoxPacker" ∈ TS := hv_ts (i := 479) (by decide +kernel) (by decide +kernel)
theorem w443 : Cond.static ⟨"BoxPacker", "dividedToNearest", "(JI)I"⟩ ∈ TS := hv_ts (i := 480) (by decide +kernel) (by decide +kernel)
theorem w444 : Cond.code ⟨"BoxPacker", "dividedToNearest", "(JI)I"⟩ prog_1_method_26_code 7 (some FieldType.int) ∈ TS := hv_ts (i := 481) (by decide +kernel) (by decide +kernel)
theorem w445 : Cond.constantLong "BoxPacker" 216 2 ∈ TS := hv_ts (i := 482) (by decide +kernel) (by decide +kernel)
theorem w446 : Cond.methodLink "BoxPackerLaw" 101 ⟨"BoxPackerLaw", "of", "(LBoxPacker;II[J)I"⟩ ∈ TS := hv_ts (i := 483) (by decide +kernel) (by decide +kernel)
theorem w447 : Cond.static ⟨"BoxPackerLaw", "of", "(LBoxPacker;II[J)I"⟩ ∈ TS := hv_ts (i := 484) (by decide +kernel) (by decide +kernel)
theorem w448 : Cond.codeWith ⟨"BoxPackerLaw", "of", "(LBoxPacker;II[J)I"⟩ method_9_code 5 (some FieldType.int) [(0, 10, 13, 33)] ∈ TS := hv_ts (i := 485) (by decide +kernel) (by decide +kernel)
theorem w449 : Cond.methodLink "BoxPackerLaw" 41 ⟨"BoxPacker", "of", "(II)I"⟩ ∈ TS := hv_ts (i := 486) (by decide +kernel) (by decide +kernel)
theorem w450 : Cond.instanceMethod ⟨"BoxPacker", "of", "(II)I"⟩ ∈ TS := hv_ts (i := 487) (by decide +kernel) (by decide +kernel)
theorem w451 : Cond.selects "BoxPacker" ⟨"BoxPacker", "of", "(II)I"⟩ ⟨"BoxPacker", "of", "(II)I"⟩ ∈ TS := hv_ts (i := 488) (by decide +kernel) (by decide +kernel)
theorem w452 : Cond.code ⟨"BoxPacker", "of", "(II)I"⟩ prog_1_method_11_code 4 (some FieldType.int) ∈ TS := hv_ts (i := 489) (by decide +kernel) (by decide +kernel)
theorem w453 : Cond.methodLinkNest "BoxPacker" 126 ⟨"BoxPacker$Box", "badness", "()I"⟩ "BoxPacker" ∈ TS := hv_ts (i := 490) (by decide +kernel) (by decide +kernel)
theorem w455 : Cond.instanceMethod ⟨"BoxPacker$Box", "badness", "()I"⟩ ∈ TS := hv_ts (i := 492) (by decide +kernel) (by decide +kernel)
theorem w456 : Cond.code ⟨"BoxPacker$Box", "badness", "()I"⟩ prog_2_method_9_code 2 (some FieldType.int) ∈ TS := hv_ts (i := 493) (by decide +kernel) (by decide +kernel)
theorem w457 : Cond.methodLink "BoxPacker$Box" 119 ⟨"java/lang/Math", "abs", "(I)I"⟩ ∈ TS := hv_ts (i := 494) (by decide +kernel) (by decide +kernel)
theorem w458 : Cond.static ⟨"java/lang/Math", "abs", "(I)I"⟩ ∈ TS := hv_ts (i := 495) (by decide +kernel) (by decide +kernel)
theorem w459 : Cond.code ⟨"java/lang/Math", "abs", "(I)I"⟩ prog_13_method_59_code 1 (some FieldType.int) ∈ TS := hv_ts (i := 496) (by decide +kernel) (by decide +kernel)
theorem w460 : Cond.methodLink "BoxPacker$Box" 122 ⟨"BoxPacker$Box", "badnessRatio", "(II)I"⟩ ∈ TS := hv_ts (i := 497) (by decide +kernel) (by decide +kernel)
theorem w461 : Cond.static ⟨"BoxPacker$Box", "badnessRatio", "(II)I"⟩ ∈ TS := hv_ts (i := 498) (by decide +kernel) (by decide +kernel)
theorem w462 : Cond.code ⟨"BoxPacker$Box", "badnessRatio", "(II)I"⟩ prog_2_method_10_code 2 (some FieldType.int) ∈ TS := hv_ts (i := 499) (by decide +kernel) (by decide +kernel)
theorem w463 : Cond.constant "BoxPacker$Box" 127 7230584 ∈ TS := hv_ts (i := 500) (by decide +kernel) (by decide +kernel)
theorem w464 : Cond.constant "BoxPacker$Box" 128 1663497 ∈ TS := hv_ts (i := 501) (by decide +kernel) (by decide +kernel)
theorem w465 : Cond.constant "BoxPacker$Box" 125 131072 ∈ TS := hv_ts (i := 502) (by decide +kernel) (by decide +kernel)
theorem w466 : Cond.constant "BoxPacker$Box" 126 262144 ∈ TS := hv_ts (i := 503) (by decide +kernel) (by decide +kernel)
theorem w468 : Cond.methodLink "BoxPackerLaw" 104 ⟨"BoxPackerLaw", "place", "(LBoxPacker;II[J)I"⟩ ∈ TS := hv_ts (i := 505) (by decide +kernel) (by decide +kernel)
theorem w469 : Cond.static ⟨"BoxPackerLaw", "place", "(LBoxPacker;II[J)I"⟩ ∈ TS := hv_ts (i := 506) (by decide +kernel) (by decide +kernel)
theorem w470 : Cond.codeWith ⟨"BoxPackerLaw", "place", "(LBoxPacker;II[J)I"⟩ method_10_code 5 (some FieldType.int) [(0, 10, 13, 33)] ∈ TS := hv_ts (i := 507) (by decide +kernel) (by decide +kernel)
theorem w471 : Cond.methodLink "BoxPackerLaw" 44 ⟨"BoxPacker", "place", "(II)I"⟩ ∈ TS := hv_ts (i := 508) (by decide +kernel) (by decide +kernel)
theorem w472 : Cond.instanceMethod ⟨"BoxPacker", "place", "(II)I"⟩ ∈ TS := hv_ts (i := 509) (by decide +kernel) (by decide +kernel)
theorem w473 : Cond.selects "BoxPacker" ⟨"BoxPacker", "place", "(II)I"⟩ ⟨"BoxPacker", "place", "(II)I"⟩ ∈ TS := hv_ts (i := 510) (by decide +kernel) (by decide +kernel)
theorem w474 : Cond.code ⟨"BoxPacker", "place", "(II)I"⟩ prog_1_method_12_code 4 (some FieldType.int) ∈ TS := hv_ts (i := 511) (by decide +kernel) (by decide +kernel)
theorem w476 : Cond.methodLink "BoxPackerLaw" 107 ⟨"BoxPackerLaw", "lay", "(LBoxPacker;III[J)I"⟩ ∈ TS := hv_ts (i := 513) (by decide +kernel) (by decide +kernel)
theorem w477 : Cond.static ⟨"BoxPackerLaw", "lay", "(LBoxPacker;III[J)I"⟩ ∈ TS := hv_ts (i := 514) (by decide +kernel) (by decide +kernel)
theorem w478 : Cond.codeWith ⟨"BoxPackerLaw", "lay", "(LBoxPacker;III[J)I"⟩ method_11_code 6 (some FieldType.int) [(0, 12, 15, 33), (0, 12, 19, 13)] ∈ TS := hv_ts (i := 515) (by decide +kernel) (by decide +kernel)
theorem w479 : Cond.methodLink "BoxPackerLaw" 47 ⟨"BoxPacker", "lay", "(III)I"⟩ ∈ TS := hv_ts (i := 516) (by decide +kernel) (by decide +kernel)
theorem w480 : Cond.instanceMethod ⟨"BoxPacker", "lay", "(III)I"⟩ ∈ TS := hv_ts (i := 517) (by decide +kernel) (by decide +kernel)
theorem w481 : Cond.selects "BoxPacker" ⟨"BoxPacker", "lay", "(III)I"⟩ ⟨"BoxPacker", "lay", "(III)I"⟩ ∈ TS := hv_ts (i := 518) (by decide +kernel) (by decide +kernel)
theorem w482 : Cond.code ⟨"BoxPacker", "lay", "(III)I"⟩ prog_1_method_13_code 5 (some FieldType.int) ∈ TS := hv_ts (i := 519) (by decide +kernel) (by decide +kernel)
theorem w484 : Cond.methodLinkNest "BoxPacker" 152 ⟨"BoxPacker$Marks", "clear", "()V"⟩ "BoxPacker" ∈ TS := hv_ts (i := 521) (by decide +kernel) (by decide +kernel)
theorem w486 : Cond.instanceMethod ⟨"BoxPacker$Marks", "clear", "()V"⟩ ∈ TS := hv_ts (i := 523) (by decide +kernel) (by decide +kernel)
theorem w487 : Cond.code ⟨"BoxPacker$Marks", "clear", "()V"⟩ prog_4_method_2_code 1 none ∈ TS := hv_ts (i := 524) (by decide +kernel) (by decide +kernel)
theorem w488 : Cond.methodLink "BoxPacker" 155 ⟨"BoxPacker", "layOut", "(LBoxPacker$Box;JJ)Z"⟩ ∈ TS := hv_ts (i := 525) (by decide +kernel) (by decide +kernel)
theorem w490 : Cond.instanceMethod ⟨"BoxPacker", "layOut", "(LBoxPacker$Box;JJ)Z"⟩ ∈ TS := hv_ts (i := 527) (by decide +kernel) (by decide +kernel)
theorem w491 : Cond.code ⟨"BoxPacker", "layOut", "(LBoxPacker$Box;JJ)Z"⟩ prog_1_method_18_code 9 (some FieldType.boolean) ∈ TS := hv_ts (i := 528) (by decide +kernel) (by decide +kernel)
theorem w492 : Cond.methodLink "BoxPacker" 174 ⟨"BoxPacker", "layOutItem", "(LBoxPacker$Box;LBoxPacker$Solid;IJJ)Z"⟩ ∈ TS := hv_ts (i := 529) (by decide +kernel) (by decide +kernel)
theorem w494 : Cond.instanceMethod ⟨"BoxPacker", "layOutItem", "(LBoxPacker$Box;LBoxPacker$Solid;IJJ)Z"⟩ ∈ TS := hv_ts (i := 531) (by decide +kernel) (by decide +kernel)
theorem w495 : Cond.code ⟨"BoxPacker", "layOutItem", "(LBoxPacker$Box;LBoxPacker$Solid;IJJ)Z"⟩ prog_1_method_19_code 16 (some FieldType.boolean) ∈ TS := hv_ts (i := 532) (by decide +kernel) (by decide +kernel)
theorem w496 : Cond.methodLink "BoxPacker" 186 ⟨"BoxPacker", "known", "(I)I"⟩ ∈ TS := hv_ts (i := 533) (by decide +kernel) (by decide +kernel)
theorem w497 : Cond.methodLinkNest "BoxPacker" 202 ⟨"BoxPacker$Marks", "add", "(IJJIII)Z"⟩ "BoxPacker" ∈ TS := hv_ts (i := 534) (by decide +kernel) (by decide +kernel)
theorem w499 : Cond.instanceMethod ⟨"BoxPacker$Marks", "add", "(IJJIII)Z"⟩ ∈ TS := hv_ts (i := 536) (by decide +kernel) (by decide +kernel)
theorem w500 : Cond.code ⟨"BoxPacker$Marks", "add", "(IJJIII)Z"⟩ prog_4_method_3_code 10 (some FieldType.boolean) ∈ TS := hv_ts (i := 537) (by decide +kernel) (by decide +kernel)
theorem w501 : Cond.methodLink "BoxPackerLaw" 110 ⟨"BoxPackerLaw", "mark", "(LBoxPacker;II[J)I"⟩ ∈ TS := hv_ts (i := 538) (by decide +kernel) (by decide +kernel)
theorem w502 : Cond.static ⟨"BoxPackerLaw", "mark", "(LBoxPacker;II[J)I"⟩ ∈ TS := hv_ts (i := 539) (by decide +kernel) (by decide +kernel)
theorem w503 : Cond.codeWith ⟨"BoxPackerLaw", "mark", "(LBoxPacker;II[J)I"⟩ method_12_code 5 (some FieldType.int) [(0, 9, 12, 33)] ∈ TS := hv_ts (i := 540) (by decide +kernel) (by decide +kernel)
theorem w504 : Cond.methodLink "BoxPackerLaw" 50 ⟨"BoxPacker", "mark", "(II)J"⟩ ∈ TS := hv_ts (i := 541) (by decide +kernel) (by decide +kernel)
theorem w505 : Cond.instanceMethod ⟨"BoxPacker", "mark", "(II)J"⟩ ∈ TS := hv_ts (i := 542) (by decide +kernel) (by decide +kernel)
theorem w506 : Cond.selects "BoxPacker" ⟨"BoxPacker", "mark", "(II)J"⟩ ⟨"BoxPacker", "mark", "(II)J"⟩ ∈ TS := hv_ts (i := 543) (by decide +kernel) (by decide +kernel)
theorem w507 : Cond.code ⟨"BoxPacker", "mark", "(II)J"⟩ prog_1_method_14_code 3 (some FieldType.long) ∈ TS := hv_ts (i := 544) (by decide +kernel) (by decide +kernel)
theorem w510 : Cond.classLink "BoxPackerLaw" 55 "BoxPackerModel" ∈ TS := hv_ts (i := 547) (by decide +kernel) (by decide +kernel)
theorem w511 : Cond.instantiable "BoxPackerModel" 27 ∈ TS := hv_ts (i := 548) (by decide +kernel) (by decide +kernel)
theorem w512 : Cond.methodLink "BoxPackerLaw" 57 ⟨"BoxPackerModel", "<init>", "()V"⟩ ∈ TS := hv_ts (i := 549) (by decide +kernel) (by decide +kernel)
theorem w513 : Cond.instanceMethod ⟨"BoxPackerModel", "<init>", "()V"⟩ ∈ TS := hv_ts (i := 550) (by decide +kernel) (by decide +kernel)
theorem w514 : Cond.code ⟨"BoxPackerModel", "<init>", "()V"⟩ prog_8_method_1_code 1 none ∈ TS := hv_ts (i := 551) (by decide +kernel) (by decide +kernel)
theorem w515 : Cond.methodLink "BoxPackerModel" 1 ⟨"java/lang/Object", "<init>", "()V"⟩ ∈ TS := hv_ts (i := 552) (by decide +kernel) (by decide +kernel)
theorem w516 : Cond.constant "BoxPackerModel" 13 51000 ∈ TS := hv_ts (i := 553) (by decide +kernel) (by decide +kernel)
theorem w517 : Cond.fieldLink "BoxPackerModel" 64 "BoxPackerModel" "thrown" "I" ∈ TS := hv_ts (i := 554) (by decide +kernel) (by decide +kernel)
theorem w518 : Cond.fieldLink "BoxPackerModel" 7 "BoxPackerModel" "kinds" "[I" ∈ TS := hv_ts (i := 555) (by decide +kernel) (by decide +kernel)
theorem w519 : Cond.fieldLink "BoxPackerModel" 14 "BoxPackerModel" "numbers" "[I" ∈ TS := hv_ts (i := 556) (by decide +kernel) (by decide +kernel)
theorem w520 : Cond.fieldLink "BoxPackerModel" 75 "BoxPackerModel" "start" "I" ∈ TS := hv_ts (i := 557) (by decide +kernel) (by decide +kernel)
theorem w521 : Cond.fieldLink "BoxPackerModel" 72 "BoxPackerModel" "end" "I" ∈ TS := hv_ts (i := 558) (by decide +kernel) (by decide +kernel)
theorem w522 : Cond.fieldLink "BoxPackerModel" 99 "BoxPackerModel" "count" "I" ∈ TS := hv_ts (i := 559) (by decide +kernel) (by decide +kernel)
theorem w523 : Cond.fieldLink "BoxPackerModel" 17 "BoxPackerModel" "from" "[I" ∈ TS := hv_ts (i := 560) (by decide +kernel) (by decide +kernel)
theorem w524 : Cond.fieldLink "BoxPackerModel" 20 "BoxPackerModel" "isBelow" "[Z" ∈ TS := hv_ts (i := 561) (by decide +kernel) (by decide +kernel)
theorem w525 : Cond.fieldLink "BoxPackerModel" 24 "BoxPackerModel" "width" "[I" ∈ TS := hv_ts (i := 562) (by decide +kernel) (by decide +kernel)
theorem w526 : Cond.fieldLink "BoxPackerModel" 27 "BoxPackerModel" "height" "[I" ∈ TS := hv_ts (i := 563) (by decide +kernel) (by decide +kernel)
theorem w527 : Cond.fieldLink "BoxPackerModel" 30 "BoxPackerModel" "depth" "[I" ∈ TS := hv_ts (i := 564) (by decide +kernel) (by decide +kernel)
theorem w528 : Cond.fieldLink "BoxPackerModel" 33 "BoxPackerModel" "excess" "[I" ∈ TS := hv_ts (i := 565) (by decide +kernel) (by decide +kernel)
theorem w529 : Cond.fieldLink "BoxPackerModel" 36 "BoxPackerModel" "order" "[I" ∈ TS := hv_ts (i := 566) (by decide +kernel) (by decide +kernel)
theorem w530 : Cond.fieldLink "BoxPackerModel" 39 "BoxPackerModel" "total" "[I" ∈ TS := hv_ts (i := 567) (by decide +kernel) (by decide +kernel)
theorem w531 : Cond.fieldLink "BoxPackerModel" 42 "BoxPackerModel" "badness" "[I" ∈ TS := hv_ts (i := 568) (by decide +kernel) (by decide +kernel)
theorem w532 : Cond.fieldLink "BoxPackerModel" 45 "BoxPackerModel" "overfull" "[I" ∈ TS := hv_ts (i := 569) (by decide +kernel) (by decide +kernel)
theorem w533 : Cond.fieldLink "BoxPackerModel" 48 "BoxPackerModel" "deep" "[I" ∈ TS := hv_ts (i := 570) (by decide +kernel) (by decide +kernel)
theorem w534 : Cond.fieldLink "BoxPackerModel" 51 "BoxPackerModel" "inAll" "[I" ∈ TS := hv_ts (i := 571) (by decide +kernel) (by decide +kernel)
theorem w535 : Cond.fieldLink "BoxPackerModel" 116 "BoxPackerModel" "good" "Z" ∈ TS := hv_ts (i := 572) (by decide +kernel) (by decide +kernel)
theorem w536 : Cond.fieldLink "BoxPackerModel" 112 "BoxPackerModel" "length" "J" ∈ TS := hv_ts (i := 573) (by decide +kernel) (by decide +kernel)
theorem w537 : Cond.fieldLink "BoxPackerModel" 120 "BoxPackerModel" "before" "J" ∈ TS := hv_ts (i := 574) (by decide +kernel) (by decide +kernel)
theorem w538 : Cond.fieldLink "BoxPackerModel" 123 "BoxPackerModel" "across" "J" ∈ TS := hv_ts (i := 575) (by decide +kernel) (by decide +kernel)
theorem w539 : Cond.fieldLink "BoxPackerModel" 126 "BoxPackerModel" "under" "J" ∈ TS := hv_ts (i := 576) (by decide +kernel) (by decide +kernel)
theorem w540 : Cond.fieldLink "BoxPackerModel" 54 "BoxPackerModel" "stretch" "[J" ∈ TS := hv_ts (i := 577) (by decide +kernel) (by decide +kernel)
theorem w541 : Cond.fieldLink "BoxPackerModel" 58 "BoxPackerModel" "shrink" "[J" ∈ TS := hv_ts (i := 578) (by decide +kernel) (by decide +kernel)
theorem w542 : Cond.fieldLink "BoxPackerModel" 61 "BoxPackerModel" "marks" "[J" ∈ TS := hv_ts (i := 579) (by decide +kernel) (by decide +kernel)
theorem w543 : Cond.fieldLink "BoxPackerModel" 190 "BoxPackerModel" "marked" "I" ∈ TS := hv_ts (i := 580) (by decide +kernel) (by decide +kernel)
theorem w544 : Cond.lays "BoxPackerModel" "BoxPackerModel" "thrown" "I" ∈ TS := hv_ts (i := 581) (by decide +kernel) (by decide +kernel)
theorem w546 : Cond.laysFinal "BoxPackerModel" "BoxPackerModel" "kinds" "[I" ∈ TS := hv_ts (i := 583) (by decide +kernel) (by decide +kernel)
theorem w548 : Cond.laysFinal "BoxPackerModel" "BoxPackerModel" "numbers" "[I" ∈ TS := hv_ts (i := 585) (by decide +kernel) (by decide +kernel)
theorem w550 : Cond.lays "BoxPackerModel" "BoxPackerModel" "start" "I" ∈ TS := hv_ts (i := 587) (by decide +kernel) (by decide +kernel)
end
section
theorem w552 : Cond.lays "BoxPackerModel" "BoxPackerModel" "end" "I" ∈ TS := hv_ts (i := 589) (by decide +kernel) (by decide +kernel)
theorem w554 : Cond.lays "BoxPackerModel" "BoxPackerModel" "count" "I" ∈ TS := hv_ts (i := 591) (by decide +kernel) (by decide +kernel)
theorem w556 : Cond.laysFinal "BoxPackerModel" "BoxPackerModel" "from" "[I" ∈ TS := hv_ts (i := 593) (by decide +kernel) (by decide +kernel)
theorem w558 : Cond.laysFinal "BoxPackerModel" "BoxPackerModel" "isBelow" "[Z" ∈ TS := hv_ts (i := 595) (by decide +kernel) (by decide +kernel)
theorem w560 : Cond.laysFinal "BoxPackerModel" "BoxPackerModel" "width" "[I" ∈ TS := hv_ts (i := 597) (by decide +kernel) (by decide +kernel)
theorem w562 : Cond.laysFinal "BoxPackerModel" "BoxPackerModel" "height" "[I" ∈ TS := hv_ts (i := 599) (by decide +kernel) (by decide +kernel)
theorem w564 : Cond.laysFinal "BoxPackerModel" "BoxPackerModel" "depth" "[I" ∈ TS := hv_ts (i := 601) (by decide +kernel) (by decide +kernel)
theorem w566 : Cond.laysFinal "BoxPackerModel" "BoxPackerModel" "excess" "[I" ∈ TS := hv_ts (i := 603) (by decide +kernel) (by decide +kernel)
theorem w568 : Cond.laysFinal "BoxPackerModel" "BoxPackerModel" "order" "[I" ∈ TS := hv_ts (i := 605) (by decide +kernel) (by decide +kernel)
theorem w570 : Cond.laysFinal "BoxPackerModel" "BoxPackerModel" "total" "[I" ∈ TS := hv_ts (i := 607) (by decide +kernel) (by decide +kernel)
theorem w572 : Cond.laysFinal "BoxPackerModel" "BoxPackerModel" "badness" "[I" ∈ TS := hv_ts (i := 609) (by decide +kernel) (by decide +kernel)
theorem w574 : Cond.laysFinal "BoxPackerModel" "BoxPackerModel" "overfull" "[I" ∈ TS := hv_ts (i := 611) (by decide +kernel) (by decide +kernel)
theorem w576 : Cond.laysFinal "BoxPackerModel" "BoxPackerModel" "deep" "[I" ∈ TS := hv_ts (i := 613) (by decide +kernel) (by decide +kernel)
theorem w578 : Cond.laysFinal "BoxPackerModel" "BoxPackerModel" "inAll" "[I" ∈ TS := hv_ts (i := 615) (by decide +kernel) (by decide +kernel)
theorem w580 : Cond.lays "BoxPackerModel" "BoxPackerModel" "good" "Z" ∈ TS := hv_ts (i := 617) (by decide +kernel) (by decide +kernel)
theorem w582 : Cond.lays "BoxPackerModel" "BoxPackerModel" "length" "J" ∈ TS := hv_ts (i := 619) (by decide +kernel) (by decide +kernel)
theorem w584 : Cond.lays "BoxPackerModel" "BoxPackerModel" "before" "J" ∈ TS := hv_ts (i := 621) (by decide +kernel) (by decide +kernel)
theorem w586 : Cond.lays "BoxPackerModel" "BoxPackerModel" "across" "J" ∈ TS := hv_ts (i := 623) (by decide +kernel) (by decide +kernel)
theorem w588 : Cond.lays "BoxPackerModel" "BoxPackerModel" "under" "J" ∈ TS := hv_ts (i := 625) (by decide +kernel) (by decide +kernel)
theorem w590 : Cond.laysFinal "BoxPackerModel" "BoxPackerModel" "stretch" "[J" ∈ TS := hv_ts (i := 627) (by decide +kernel) (by decide +kernel)
theorem w592 : Cond.laysFinal "BoxPackerModel" "BoxPackerModel" "shrink" "[J" ∈ TS := hv_ts (i := 629) (by decide +kernel) (by decide +kernel)
theorem w594 : Cond.laysFinal "BoxPackerModel" "BoxPackerModel" "marks" "[J" ∈ TS := hv_ts (i := 631) (by decide +kernel) (by decide +kernel)
theorem w596 : Cond.lays "BoxPackerModel" "BoxPackerModel" "marked" "I" ∈ TS := hv_ts (i := 633) (by decide +kernel) (by decide +kernel)
theorem w598 : Cond.superclass "BoxPackerModel" "java/lang/Object" ∈ TS := hv_ts (i := 635) (by decide +kernel) (by decide +kernel)
theorem w599 : Cond.arrayClass FieldType.boolean ∈ TS := hv_ts (i := 636) (by decide +kernel) (by decide +kernel)
theorem w600 : Cond.methodLink "BoxPackerLaw" 64 ⟨"BoxPackerModel", "thrown", "()I"⟩ ∈ TS := hv_ts (i := 637) (by decide +kernel) (by decide +kernel)
theorem w601 : Cond.instanceMethod ⟨"BoxPackerModel", "thrown", "()I"⟩ ∈ TS := hv_ts (i := 638) (by decide +kernel) (by decide +kernel)
theorem w602 : Cond.selects "BoxPackerModel" ⟨"BoxPackerModel", "thrown", "()I"⟩ ⟨"BoxPackerModel", "thrown", "()I"⟩ ∈ TS := hv_ts (i := 639) (by decide +kernel) (by decide +kernel)
theorem w603 : Cond.code ⟨"BoxPackerModel", "thrown", "()I"⟩ prog_8_method_2_code 1 (some FieldType.int) ∈ TS := hv_ts (i := 640) (by decide +kernel) (by decide +kernel)
theorem w604 : Cond.methodLink "BoxPackerLaw" 63 ⟨"BoxPackerModel", "leaf", "(IIII)I"⟩ ∈ TS := hv_ts (i := 641) (by decide +kernel) (by decide +kernel)
theorem w605 : Cond.instanceMethod ⟨"BoxPackerModel", "leaf", "(IIII)I"⟩ ∈ TS := hv_ts (i := 642) (by decide +kernel) (by decide +kernel)
theorem w606 : Cond.selects "BoxPackerModel" ⟨"BoxPackerModel", "leaf", "(IIII)I"⟩ ⟨"BoxPackerModel", "leaf", "(IIII)I"⟩ ∈ TS := hv_ts (i := 643) (by decide +kernel) (by decide +kernel)
theorem w607 : Cond.code ⟨"BoxPackerModel", "leaf", "(IIII)I"⟩ prog_8_method_6_code 6 (some FieldType.int) ∈ TS := hv_ts (i := 644) (by decide +kernel) (by decide +kernel)
theorem w608 : Cond.constant "BoxPackerModel" 78 65535 ∈ TS := hv_ts (i := 645) (by decide +kernel) (by decide +kernel)
theorem w609 : Cond.methodLink "BoxPackerModel" 79 ⟨"BoxPackerModel", "isSize", "(J)Z"⟩ ∈ TS := hv_ts (i := 646) (by decide +kernel) (by decide +kernel)
theorem w610 : Cond.static ⟨"BoxPackerModel", "isSize", "(J)Z"⟩ ∈ TS := hv_ts (i := 647) (by decide +kernel) (by decide +kernel)
theorem w611 : Cond.code ⟨"BoxPackerModel", "isSize", "(J)Z"⟩ prog_8_method_3_code 2 (some FieldType.boolean) ∈ TS := hv_ts (i := 648) (by decide +kernel) (by decide +kernel)
theorem w612 : Cond.constantLong "BoxPackerModel" 68 (-1073741823) ∈ TS := hv_ts (i := 649) (by decide +kernel) (by decide +kernel)
theorem w613 : Cond.constantLong "BoxPackerModel" 70 1073741823 ∈ TS := hv_ts (i := 650) (by decide +kernel) (by decide +kernel)
theorem w614 : Cond.methodLink "BoxPackerModel" 83 ⟨"BoxPackerModel", "isFull", "()Z"⟩ ∈ TS := hv_ts (i := 651) (by decide +kernel) (by decide +kernel)
theorem w616 : Cond.instanceMethod ⟨"BoxPackerModel", "isFull", "()Z"⟩ ∈ TS := hv_ts (i := 653) (by decide +kernel) (by decide +kernel)
theorem w617 : Cond.code ⟨"BoxPackerModel", "isFull", "()Z"⟩ prog_8_method_5_code 1 (some FieldType.boolean) ∈ TS := hv_ts (i := 654) (by decide +kernel) (by decide +kernel)
theorem w618 : Cond.methodLink "BoxPackerModel" 87 ⟨"BoxPackerModel", "append", "(IIIIII)I"⟩ ∈ TS := hv_ts (i := 655) (by decide +kernel) (by decide +kernel)
theorem w620 : Cond.instanceMethod ⟨"BoxPackerModel", "append", "(IIIIII)I"⟩ ∈ TS := hv_ts (i := 657) (by decide +kernel) (by decide +kernel)
theorem w621 : Cond.code ⟨"BoxPackerModel", "append", "(IIIIII)I"⟩ prog_8_method_4_code 7 (some FieldType.int) ∈ TS := hv_ts (i := 658) (by decide +kernel) (by decide +kernel)
theorem w622 : Cond.methodLink "BoxPackerLaw" 71 ⟨"BoxPackerModel", "rule", "(III)I"⟩ ∈ TS := hv_ts (i := 659) (by decide +kernel) (by decide +kernel)
theorem w623 : Cond.instanceMethod ⟨"BoxPackerModel", "rule", "(III)I"⟩ ∈ TS := hv_ts (i := 660) (by decide +kernel) (by decide +kernel)
theorem w624 : Cond.selects "BoxPackerModel" ⟨"BoxPackerModel", "rule", "(III)I"⟩ ⟨"BoxPackerModel", "rule", "(III)I"⟩ ∈ TS := hv_ts (i := 661) (by decide +kernel) (by decide +kernel)
theorem w625 : Cond.code ⟨"BoxPackerModel", "rule", "(III)I"⟩ prog_8_method_8_code 4 (some FieldType.int) ∈ TS := hv_ts (i := 662) (by decide +kernel) (by decide +kernel)
theorem w626 : Cond.methodLink "BoxPackerModel" 92 ⟨"BoxPackerModel", "isRuleSize", "(I)Z"⟩ ∈ TS := hv_ts (i := 663) (by decide +kernel) (by decide +kernel)
theorem w627 : Cond.static ⟨"BoxPackerModel", "isRuleSize", "(I)Z"⟩ ∈ TS := hv_ts (i := 664) (by decide +kernel) (by decide +kernel)
theorem w628 : Cond.code ⟨"BoxPackerModel", "isRuleSize", "(I)Z"⟩ prog_8_method_7_code 1 (some FieldType.boolean) ∈ TS := hv_ts (i := 665) (by decide +kernel) (by decide +kernel)
theorem w629 : Cond.constant "BoxPackerModel" 91 (-1073741824) ∈ TS := hv_ts (i := 666) (by decide +kernel) (by decide +kernel)
theorem w630 : Cond.methodLink "BoxPackerLaw" 75 ⟨"BoxPackerModel", "glue", "(IIIII)I"⟩ ∈ TS := hv_ts (i := 667) (by decide +kernel) (by decide +kernel)
theorem w631 : Cond.instanceMethod ⟨"BoxPackerModel", "glue", "(IIIII)I"⟩ ∈ TS := hv_ts (i := 668) (by decide +kernel) (by decide +kernel)
theorem w632 : Cond.selects "BoxPackerModel" ⟨"BoxPackerModel", "glue", "(IIIII)I"⟩ ⟨"BoxPackerModel", "glue", "(IIIII)I"⟩ ∈ TS := hv_ts (i := 669) (by decide +kernel) (by decide +kernel)
theorem w633 : Cond.code ⟨"BoxPackerModel", "glue", "(IIIII)I"⟩ prog_8_method_10_code 7 (some FieldType.int) ∈ TS := hv_ts (i := 670) (by decide +kernel) (by decide +kernel)
theorem w634 : Cond.methodLink "BoxPackerModel" 96 ⟨"BoxPackerModel", "isOrder", "(I)Z"⟩ ∈ TS := hv_ts (i := 671) (by decide +kernel) (by decide +kernel)
theorem w635 : Cond.static ⟨"BoxPackerModel", "isOrder", "(I)Z"⟩ ∈ TS := hv_ts (i := 672) (by decide +kernel) (by decide +kernel)
theorem w636 : Cond.code ⟨"BoxPackerModel", "isOrder", "(I)Z"⟩ prog_8_method_9_code 1 (some FieldType.boolean) ∈ TS := hv_ts (i := 673) (by decide +kernel) (by decide +kernel)
theorem w637 : Cond.methodLink "BoxPackerLaw" 79 ⟨"BoxPackerModel", "kern", "(I)I"⟩ ∈ TS := hv_ts (i := 674) (by decide +kernel) (by decide +kernel)
theorem w638 : Cond.instanceMethod ⟨"BoxPackerModel", "kern", "(I)I"⟩ ∈ TS := hv_ts (i := 675) (by decide +kernel) (by decide +kernel)
theorem w639 : Cond.selects "BoxPackerModel" ⟨"BoxPackerModel", "kern", "(I)I"⟩ ⟨"BoxPackerModel", "kern", "(I)I"⟩ ∈ TS := hv_ts (i := 676) (by decide +kernel) (by decide +kernel)
theorem w640 : Cond.code ⟨"BoxPackerModel", "kern", "(I)I"⟩ prog_8_method_11_code 2 (some FieldType.int) ∈ TS := hv_ts (i := 677) (by decide +kernel) (by decide +kernel)
theorem w641 : Cond.methodLink "BoxPackerLaw" 83 ⟨"BoxPackerModel", "box", "(II)I"⟩ ∈ TS := hv_ts (i := 678) (by decide +kernel) (by decide +kernel)
theorem w642 : Cond.instanceMethod ⟨"BoxPackerModel", "box", "(II)I"⟩ ∈ TS := hv_ts (i := 679) (by decide +kernel) (by decide +kernel)
theorem w643 : Cond.selects "BoxPackerModel" ⟨"BoxPackerModel", "box", "(II)I"⟩ ⟨"BoxPackerModel", "box", "(II)I"⟩ ∈ TS := hv_ts (i := 680) (by decide +kernel) (by decide +kernel)
theorem w644 : Cond.code ⟨"BoxPackerModel", "box", "(II)I"⟩ prog_8_method_13_code 3 (some FieldType.int) ∈ TS := hv_ts (i := 681) (by decide +kernel) (by decide +kernel)
theorem w645 : Cond.methodLink "BoxPackerModel" 102 ⟨"BoxPackerModel", "isBox", "(I)Z"⟩ ∈ TS := hv_ts (i := 682) (by decide +kernel) (by decide +kernel)
theorem w647 : Cond.instanceMethod ⟨"BoxPackerModel", "isBox", "(I)Z"⟩ ∈ TS := hv_ts (i := 684) (by decide +kernel) (by decide +kernel)
theorem w648 : Cond.code ⟨"BoxPackerModel", "isBox", "(I)Z"⟩ prog_8_method_12_code 2 (some FieldType.boolean) ∈ TS := hv_ts (i := 685) (by decide +kernel) (by decide +kernel)
theorem w649 : Cond.methodLink "BoxPackerLaw" 88 ⟨"BoxPackerModel", "keep", "(I)Z"⟩ ∈ TS := hv_ts (i := 686) (by decide +kernel) (by decide +kernel)
theorem w650 : Cond.instanceMethod ⟨"BoxPackerModel", "keep", "(I)Z"⟩ ∈ TS := hv_ts (i := 687) (by decide +kernel) (by decide +kernel)
theorem w651 : Cond.selects "BoxPackerModel" ⟨"BoxPackerModel", "keep", "(I)Z"⟩ ⟨"BoxPackerModel", "keep", "(I)Z"⟩ ∈ TS := hv_ts (i := 688) (by decide +kernel) (by decide +kernel)
theorem w652 : Cond.code ⟨"BoxPackerModel", "keep", "(I)Z"⟩ prog_8_method_14_code 2 (some FieldType.boolean) ∈ TS := hv_ts (i := 689) (by decide +kernel) (by decide +kernel)
theorem w653 : Cond.methodLink "BoxPackerLaw" 92 ⟨"BoxPackerModel", "items", "()I"⟩ ∈ TS := hv_ts (i := 690) (by decide +kernel) (by decide +kernel)
theorem w654 : Cond.instanceMethod ⟨"BoxPackerModel", "items", "()I"⟩ ∈ TS := hv_ts (i := 691) (by decide +kernel) (by decide +kernel)
theorem w655 : Cond.selects "BoxPackerModel" ⟨"BoxPackerModel", "items", "()I"⟩ ⟨"BoxPackerModel", "items", "()I"⟩ ∈ TS := hv_ts (i := 692) (by decide +kernel) (by decide +kernel)
theorem w656 : Cond.code ⟨"BoxPackerModel", "items", "()I"⟩ prog_8_method_15_code 1 (some FieldType.int) ∈ TS := hv_ts (i := 693) (by decide +kernel) (by decide +kernel)
theorem w657 : Cond.methodLink "BoxPackerLaw" 96 ⟨"BoxPackerModel", "pack", "(ZIII)I"⟩ ∈ TS := hv_ts (i := 694) (by decide +kernel) (by decide +kernel)
theorem w658 : Cond.instanceMethod ⟨"BoxPackerModel", "pack", "(ZIII)I"⟩ ∈ TS := hv_ts (i := 695) (by decide +kernel) (by decide +kernel)
theorem w659 : Cond.selects "BoxPackerModel" ⟨"BoxPackerModel", "pack", "(ZIII)I"⟩ ⟨"BoxPackerModel", "pack", "(ZIII)I"⟩ ∈ TS := hv_ts (i := 696) (by decide +kernel) (by decide +kernel)
theorem w660 : Cond.code ⟨"BoxPackerModel", "pack", "(ZIII)I"⟩ prog_8_method_29_code 8 (some FieldType.int) ∈ TS := hv_ts (i := 697) (by decide +kernel) (by decide +kernel)
theorem w661 : Cond.methodLink "BoxPackerModel" 166 ⟨"BoxPackerModel", "deepest", "()I"⟩ ∈ TS := hv_ts (i := 698) (by decide +kernel) (by decide +kernel)
theorem w663 : Cond.instanceMethod ⟨"BoxPackerModel", "deepest", "()I"⟩ ∈ TS := hv_ts (i := 700) (by decide +kernel) (by decide +kernel)
theorem w664 : Cond.code ⟨"BoxPackerModel", "deepest", "()I"⟩ prog_8_method_26_code 4 (some FieldType.int) ∈ TS := hv_ts (i := 701) (by decide +kernel) (by decide +kernel)
theorem w665 : Cond.methodLink "BoxPackerModel" 105 ⟨"BoxPackerModel", "number", "(II)I"⟩ ∈ TS := hv_ts (i := 702) (by decide +kernel) (by decide +kernel)
theorem w667 : Cond.instanceMethod ⟨"BoxPackerModel", "number", "(II)I"⟩ ∈ TS := hv_ts (i := 704) (by decide +kernel) (by decide +kernel)
theorem w668 : Cond.code ⟨"BoxPackerModel", "number", "(II)I"⟩ prog_8_method_16_code 3 (some FieldType.int) ∈ TS := hv_ts (i := 705) (by decide +kernel) (by decide +kernel)
theorem w669 : Cond.methodLink "BoxPackerModel" 170 ⟨"BoxPackerModel", "clear", "()V"⟩ ∈ TS := hv_ts (i := 706) (by decide +kernel) (by decide +kernel)
theorem w671 : Cond.instanceMethod ⟨"BoxPackerModel", "clear", "()V"⟩ ∈ TS := hv_ts (i := 708) (by decide +kernel) (by decide +kernel)
theorem w672 : Cond.code ⟨"BoxPackerModel", "clear", "()V"⟩ prog_8_method_22_code 2 none ∈ TS := hv_ts (i := 709) (by decide +kernel) (by decide +kernel)
theorem w673 : Cond.methodLink "BoxPackerModel" 173 ⟨"BoxPackerModel", "add", "(IZ)V"⟩ ∈ TS := hv_ts (i := 710) (by decide +kernel) (by decide +kernel)
theorem w675 : Cond.instanceMethod ⟨"BoxPackerModel", "add", "(IZ)V"⟩ ∈ TS := hv_ts (i := 712) (by decide +kernel) (by decide +kernel)
theorem w676 : Cond.code ⟨"BoxPackerModel", "add", "(IZ)V"⟩ prog_8_method_24_code 5 none ∈ TS := hv_ts (i := 713) (by decide +kernel) (by decide +kernel)
theorem w677 : Cond.methodLink "BoxPackerModel" 140 ⟨"BoxPackerModel", "isSolid", "(I)Z"⟩ ∈ TS := hv_ts (i := 714) (by decide +kernel) (by decide +kernel)
theorem w679 : Cond.instanceMethod ⟨"BoxPackerModel", "isSolid", "(I)Z"⟩ ∈ TS := hv_ts (i := 716) (by decide +kernel) (by decide +kernel)
theorem w680 : Cond.code ⟨"BoxPackerModel", "isSolid", "(I)Z"⟩ prog_8_method_18_code 2 (some FieldType.boolean) ∈ TS := hv_ts (i := 717) (by decide +kernel) (by decide +kernel)
theorem w681 : Cond.methodLink "BoxPackerModel" 143 ⟨"BoxPackerModel", "addSolid", "(IZ)V"⟩ ∈ TS := hv_ts (i := 718) (by decide +kernel) (by decide +kernel)
theorem w683 : Cond.instanceMethod ⟨"BoxPackerModel", "addSolid", "(IZ)V"⟩ ∈ TS := hv_ts (i := 720) (by decide +kernel) (by decide +kernel)
theorem w684 : Cond.code ⟨"BoxPackerModel", "addSolid", "(IZ)V"⟩ prog_8_method_23_code 4 none ∈ TS := hv_ts (i := 721) (by decide +kernel) (by decide +kernel)
theorem w685 : Cond.methodLink "BoxPackerModel" 129 ⟨"BoxPackerModel", "grow", "(J)V"⟩ ∈ TS := hv_ts (i := 722) (by decide +kernel) (by decide +kernel)
theorem w687 : Cond.instanceMethod ⟨"BoxPackerModel", "grow", "(J)V"⟩ ∈ TS := hv_ts (i := 724) (by decide +kernel) (by decide +kernel)
theorem w688 : Cond.code ⟨"BoxPackerModel", "grow", "(J)V"⟩ prog_8_method_20_code 3 none ∈ TS := hv_ts (i := 725) (by decide +kernel) (by decide +kernel)
theorem w689 : Cond.methodLink "BoxPackerModel" 133 ⟨"BoxPackerModel", "sizeOf", "(II)I"⟩ ∈ TS := hv_ts (i := 726) (by decide +kernel) (by decide +kernel)
theorem w691 : Cond.instanceMethod ⟨"BoxPackerModel", "sizeOf", "(II)I"⟩ ∈ TS := hv_ts (i := 728) (by decide +kernel) (by decide +kernel)
theorem w692 : Cond.code ⟨"BoxPackerModel", "sizeOf", "(II)I"⟩ prog_8_method_19_code 4 (some FieldType.int) ∈ TS := hv_ts (i := 729) (by decide +kernel) (by decide +kernel)
theorem w693 : Cond.methodLink "BoxPackerModel" 109 ⟨"BoxPackerModel", "solid", "(II)I"⟩ ∈ TS := hv_ts (i := 730) (by decide +kernel) (by decide +kernel)
theorem w695 : Cond.instanceMethod ⟨"BoxPackerModel", "solid", "(II)I"⟩ ∈ TS := hv_ts (i := 732) (by decide +kernel) (by decide +kernel)
theorem w696 : Cond.code ⟨"BoxPackerModel", "solid", "(II)I"⟩ prog_8_method_17_code 4 (some FieldType.int) ∈ TS := hv_ts (i := 733) (by decide +kernel) (by decide +kernel)
theorem w697 : Cond.methodLink "BoxPackerModel" 136 ⟨"BoxPackerModel", "greater", "(JJ)J"⟩ ∈ TS := hv_ts (i := 734) (by decide +kernel) (by decide +kernel)
theorem w699 : Cond.instanceMethod ⟨"BoxPackerModel", "greater", "(JJ)J"⟩ ∈ TS := hv_ts (i := 736) (by decide +kernel) (by decide +kernel)
theorem w700 : Cond.code ⟨"BoxPackerModel", "greater", "(JJ)J"⟩ prog_8_method_21_code 5 (some FieldType.long) ∈ TS := hv_ts (i := 737) (by decide +kernel) (by decide +kernel)
theorem w701 : Cond.methodLink "BoxPackerModel" 176 ⟨"BoxPackerModel", "setGlue", "(IJ)V"⟩ ∈ TS := hv_ts (i := 738) (by decide +kernel) (by decide +kernel)
theorem w703 : Cond.instanceMethod ⟨"BoxPackerModel", "setGlue", "(IJ)V"⟩ ∈ TS := hv_ts (i := 740) (by decide +kernel) (by decide +kernel)
theorem w704 : Cond.code ⟨"BoxPackerModel", "setGlue", "(IJ)V"⟩ prog_8_method_28_code 7 none ∈ TS := hv_ts (i := 741) (by decide +kernel) (by decide +kernel)
theorem w705 : Cond.constant "BoxPackerModel" 161 1000000 ∈ TS := hv_ts (i := 742) (by decide +kernel) (by decide +kernel)
theorem w706 : Cond.methodLink "BoxPackerModel" 162 ⟨"BoxPackerModel", "badnessOf", "(JJ)I"⟩ ∈ TS := hv_ts (i := 743) (by decide +kernel) (by decide +kernel)
theorem w707 : Cond.static ⟨"BoxPackerModel", "badnessOf", "(JJ)I"⟩ ∈ TS := hv_ts (i := 744) (by decide +kernel) (by decide +kernel)
theorem w708 : Cond.code ⟨"BoxPackerModel", "badnessOf", "(JJ)I"⟩ prog_8_method_25_code 6 (some FieldType.int) ∈ TS := hv_ts (i := 745) (by decide +kernel) (by decide +kernel)
theorem w709 : Cond.constantLong "BoxPackerModel" 147 7230584 ∈ TS := hv_ts (i := 746) (by decide +kernel) (by decide +kernel)
theorem w710 : Cond.constantLong "BoxPackerModel" 149 297 ∈ TS := hv_ts (i := 747) (by decide +kernel) (by decide +kernel)
theorem w711 : Cond.constantLong "BoxPackerModel" 151 1663497 ∈ TS := hv_ts (i := 748) (by decide +kernel) (by decide +kernel)
theorem w712 : Cond.constantLong "BoxPackerModel" 153 1290 ∈ TS := hv_ts (i := 749) (by decide +kernel) (by decide +kernel)
theorem w713 : Cond.constantLong "BoxPackerModel" 155 131072 ∈ TS := hv_ts (i := 750) (by decide +kernel) (by decide +kernel)
theorem w714 : Cond.constantLong "BoxPackerModel" 157 262144 ∈ TS := hv_ts (i := 751) (by decide +kernel) (by decide +kernel)
theorem w715 : Cond.methodLink "BoxPackerModel" 180 ⟨"BoxPackerModel", "countAll", "()I"⟩ ∈ TS := hv_ts (i := 752) (by decide +kernel) (by decide +kernel)
theorem w717 : Cond.instanceMethod ⟨"BoxPackerModel", "countAll", "()I"⟩ ∈ TS := hv_ts (i := 754) (by decide +kernel) (by decide +kernel)
theorem w718 : Cond.code ⟨"BoxPackerModel", "countAll", "()I"⟩ prog_8_method_27_code 4 (some FieldType.int) ∈ TS := hv_ts (i := 755) (by decide +kernel) (by decide +kernel)
theorem w719 : Cond.constantLong "BoxPackerModel" 159 1000000 ∈ TS := hv_ts (i := 756) (by decide +kernel) (by decide +kernel)
theorem w720 : Cond.methodLink "BoxPackerLaw" 100 ⟨"BoxPackerModel", "boxes", "()I"⟩ ∈ TS := hv_ts (i := 757) (by decide +kernel) (by decide +kernel)
theorem w721 : Cond.instanceMethod ⟨"BoxPackerModel", "boxes", "()I"⟩ ∈ TS := hv_ts (i := 758) (by decide +kernel) (by decide +kernel)
theorem w722 : Cond.selects "BoxPackerModel" ⟨"BoxPackerModel", "boxes", "()I"⟩ ⟨"BoxPackerModel", "boxes", "()I"⟩ ∈ TS := hv_ts (i := 759) (by decide +kernel) (by decide +kernel)
theorem w723 : Cond.code ⟨"BoxPackerModel", "boxes", "()I"⟩ prog_8_method_30_code 1 (some FieldType.int) ∈ TS := hv_ts (i := 760) (by decide +kernel) (by decide +kernel)
theorem w724 : Cond.methodLink "BoxPackerLaw" 103 ⟨"BoxPackerModel", "of", "(II)I"⟩ ∈ TS := hv_ts (i := 761) (by decide +kernel) (by decide +kernel)
theorem w725 : Cond.instanceMethod ⟨"BoxPackerModel", "of", "(II)I"⟩ ∈ TS := hv_ts (i := 762) (by decide +kernel) (by decide +kernel)
theorem w726 : Cond.selects "BoxPackerModel" ⟨"BoxPackerModel", "of", "(II)I"⟩ ⟨"BoxPackerModel", "of", "(II)I"⟩ ∈ TS := hv_ts (i := 763) (by decide +kernel) (by decide +kernel)
theorem w727 : Cond.code ⟨"BoxPackerModel", "of", "(II)I"⟩ prog_8_method_31_code 3 (some FieldType.int) ∈ TS := hv_ts (i := 764) (by decide +kernel) (by decide +kernel)
theorem w728 : Cond.methodLink "BoxPackerLaw" 106 ⟨"BoxPackerModel", "place", "(II)I"⟩ ∈ TS := hv_ts (i := 765) (by decide +kernel) (by decide +kernel)
theorem w729 : Cond.instanceMethod ⟨"BoxPackerModel", "place", "(II)I"⟩ ∈ TS := hv_ts (i := 766) (by decide +kernel) (by decide +kernel)
theorem w730 : Cond.selects "BoxPackerModel" ⟨"BoxPackerModel", "place", "(II)I"⟩ ⟨"BoxPackerModel", "place", "(II)I"⟩ ∈ TS := hv_ts (i := 767) (by decide +kernel) (by decide +kernel)
theorem w731 : Cond.code ⟨"BoxPackerModel", "place", "(II)I"⟩ prog_8_method_34_code 3 (some FieldType.int) ∈ TS := hv_ts (i := 768) (by decide +kernel) (by decide +kernel)
theorem w732 : Cond.methodLink "BoxPackerModel" 186 ⟨"BoxPackerModel", "placeOf", "(II)J"⟩ ∈ TS := hv_ts (i := 769) (by decide +kernel) (by decide +kernel)
theorem w734 : Cond.instanceMethod ⟨"BoxPackerModel", "placeOf", "(II)J"⟩ ∈ TS := hv_ts (i := 771) (by decide +kernel) (by decide +kernel)
theorem w735 : Cond.code ⟨"BoxPackerModel", "placeOf", "(II)J"⟩ prog_8_method_33_code 10 (some FieldType.long) ∈ TS := hv_ts (i := 772) (by decide +kernel) (by decide +kernel)
theorem w736 : Cond.methodLink "BoxPackerModel" 183 ⟨"BoxPackerModel", "nearest", "(JJ)J"⟩ ∈ TS := hv_ts (i := 773) (by decide +kernel) (by decide +kernel)
theorem w737 : Cond.static ⟨"BoxPackerModel", "nearest", "(JJ)J"⟩ ∈ TS := hv_ts (i := 774) (by decide +kernel) (by decide +kernel)
theorem w738 : Cond.code ⟨"BoxPackerModel", "nearest", "(JJ)J"⟩ prog_8_method_32_code 8 (some FieldType.long) ∈ TS := hv_ts (i := 775) (by decide +kernel) (by decide +kernel)
theorem w739 : Cond.methodLink "BoxPackerLaw" 109 ⟨"BoxPackerModel", "lay", "(III)I"⟩ ∈ TS := hv_ts (i := 776) (by decide +kernel) (by decide +kernel)
theorem w740 : Cond.instanceMethod ⟨"BoxPackerModel", "lay", "(III)I"⟩ ∈ TS := hv_ts (i := 777) (by decide +kernel) (by decide +kernel)
theorem w741 : Cond.selects "BoxPackerModel" ⟨"BoxPackerModel", "lay", "(III)I"⟩ ⟨"BoxPackerModel", "lay", "(III)I"⟩ ∈ TS := hv_ts (i := 778) (by decide +kernel) (by decide +kernel)
theorem w742 : Cond.code ⟨"BoxPackerModel", "lay", "(III)I"⟩ prog_8_method_38_code 4 (some FieldType.int) ∈ TS := hv_ts (i := 779) (by decide +kernel) (by decide +kernel)
theorem w743 : Cond.methodLink "BoxPackerModel" 201 ⟨"BoxPackerModel", "layBox", "(IJJ)Z"⟩ ∈ TS := hv_ts (i := 780) (by decide +kernel) (by decide +kernel)
theorem w745 : Cond.instanceMethod ⟨"BoxPackerModel", "layBox", "(IJJ)Z"⟩ ∈ TS := hv_ts (i := 782) (by decide +kernel) (by decide +kernel)
theorem w746 : Cond.code ⟨"BoxPackerModel", "layBox", "(IJJ)Z"⟩ prog_8_method_37_code 20 (some FieldType.boolean) ∈ TS := hv_ts (i := 783) (by decide +kernel) (by decide +kernel)
theorem w747 : Cond.methodLink "BoxPackerModel" 193 ⟨"BoxPackerModel", "note", "(IJJJJJ)Z"⟩ ∈ TS := hv_ts (i := 784) (by decide +kernel) (by decide +kernel)
theorem w749 : Cond.instanceMethod ⟨"BoxPackerModel", "note", "(IJJJJJ)Z"⟩ ∈ TS := hv_ts (i := 786) (by decide +kernel) (by decide +kernel)
theorem w750 : Cond.code ⟨"BoxPackerModel", "note", "(IJJJJJ)Z"⟩ prog_8_method_35_code 12 (some FieldType.boolean) ∈ TS := hv_ts (i := 787) (by decide +kernel) (by decide +kernel)
theorem w751 : Cond.methodLink "BoxPackerModel" 197 ⟨"BoxPackerModel", "ruled", "(III)J"⟩ ∈ TS := hv_ts (i := 788) (by decide +kernel) (by decide +kernel)
theorem w753 : Cond.instanceMethod ⟨"BoxPackerModel", "ruled", "(III)J"⟩ ∈ TS := hv_ts (i := 790) (by decide +kernel) (by decide +kernel)
theorem w754 : Cond.code ⟨"BoxPackerModel", "ruled", "(III)J"⟩ prog_8_method_36_code 4 (some FieldType.long) ∈ TS := hv_ts (i := 791) (by decide +kernel) (by decide +kernel)
theorem w755 : Cond.methodLink "BoxPackerLaw" 112 ⟨"BoxPackerModel", "mark", "(II)J"⟩ ∈ TS := hv_ts (i := 792) (by decide +kernel) (by decide +kernel)
theorem w756 : Cond.instanceMethod ⟨"BoxPackerModel", "mark", "(II)J"⟩ ∈ TS := hv_ts (i := 793) (by decide +kernel) (by decide +kernel)
theorem w757 : Cond.selects "BoxPackerModel" ⟨"BoxPackerModel", "mark", "(II)J"⟩ ⟨"BoxPackerModel", "mark", "(II)J"⟩ ∈ TS := hv_ts (i := 794) (by decide +kernel) (by decide +kernel)
theorem w758 : Cond.code ⟨"BoxPackerModel", "mark", "(II)J"⟩ prog_8_method_39_code 3 (some FieldType.long) ∈ TS := hv_ts (i := 795) (by decide +kernel) (by decide +kernel)
theorem w759 : Cond.sameMethod "java/lang/Throwable" "java/lang/Throwable" "fillInStackTrace" "(I)Ljava/lang/Throwable;" ∈ TS := hv_ts (i := 796) (by decide +kernel) (by decide +kernel)
theorem w760 : Cond.castable "BoxPacker$Solid" "BoxPacker$Solid" ∈ TS := hv_ts (i := 797) (by decide +kernel) (by decide +kernel)
theorem w761 : Cond.castable "BoxPacker$Space" "BoxPacker$Space" ∈ TS := hv_ts (i := 798) (by decide +kernel) (by decide +kernel)
theorem w762 : Cond.castable "BoxPacker$Solid" "BoxPacker$Item" ∈ TS := hv_ts (i := 799) (by decide +kernel) (by decide +kernel)
theorem w763 : Cond.castable "BoxPacker$Space" "BoxPacker$Item" ∈ TS := hv_ts (i := 800) (by decide +kernel) (by decide +kernel)
end
section
/-! ===== classes: fields in their order, types ===== -/
def R_BP : String := "BoxPacker"
def F_BP : u_T := fun k => match k with
  | 0 => ("BoxPacker", "list", "[LBoxPacker$Item;", true)
  | 1 => ("BoxPacker", "listed", "I", false)
  | 2 => ("BoxPacker", "made", "[LBoxPacker$Box;", true)
  | 3 => ("BoxPacker", "boxesMade", "I", false)
  | _ => ("BoxPacker", "marks", "LBoxPacker$Marks;", true)
def t_BP : Nat → FieldType := fun k => match k with
  | 0 => .array (.object "BoxPacker$Item")
  | 1 => .int
  | 2 => .array (.object "BoxPacker$Box")
  | 3 => .int
  | _ => .object "BoxPacker$Marks"
def R_Box : String := "BoxPacker$Box"
def F_Box : u_T := fun k => match k with
  | 0 => ("BoxPacker$Box", "below", "Z", true)
  | 1 => ("BoxPacker$Box", "content", "[LBoxPacker$Item;", true)
  | 2 => ("BoxPacker$Box", "places", "[I", true)
  | 3 => ("BoxPacker$Box", "deep", "I", true)
  | 4 => ("BoxPacker$Box", "inAll", "I", true)
  | 5 => ("BoxPacker$Box", "width", "I", false)
  | 6 => ("BoxPacker$Box", "height", "I", false)
  | 7 => ("BoxPacker$Box", "depth", "I", false)
  | 8 => ("BoxPacker$Box", "excess", "I", false)
  | 9 => ("BoxPacker$Box", "order", "I", false)
  | 10 => ("BoxPacker$Box", "total", "I", false)
  | _ => ("BoxPacker$Box", "overfull", "I", false)
def t_Box : Nat → FieldType := fun k => match k with
  | 0 => .boolean
  | 1 => .array (.object "BoxPacker$Item")
  | 2 => .array .int
  | 3 => .int
  | 4 => .int
  | 5 => .int
  | 6 => .int
  | 7 => .int
  | 8 => .int
  | 9 => .int
  | 10 => .int
  | _ => .int
def R_Solid : String := "BoxPacker$Solid"
def F_Solid : u_T := fun k => match k with
  | 0 => ("BoxPacker$Solid", "tag", "I", true)
  | 1 => ("BoxPacker$Solid", "width", "I", true)
  | 2 => ("BoxPacker$Solid", "height", "I", true)
  | 3 => ("BoxPacker$Solid", "depth", "I", true)
  | 4 => ("BoxPacker$Solid", "inner", "LBoxPacker$Box;", true)
  | _ => ("BoxPacker$Solid", "shift", "I", true)
def t_Solid : Nat → FieldType := fun k => match k with
  | 0 => .int
  | 1 => .int
  | 2 => .int
  | 3 => .int
  | 4 => .object "BoxPacker$Box"
  | _ => .int
def R_Space : String := "BoxPacker$Space"
def F_Space : u_T := fun k => match k with
  | 0 => ("BoxPacker$Space", "width", "I", true)
  | 1 => ("BoxPacker$Space", "stretch", "I", true)
  | 2 => ("BoxPacker$Space", "stretchOrder", "I", true)
  | 3 => ("BoxPacker$Space", "shrink", "I", true)
  | _ => ("BoxPacker$Space", "shrinkOrder", "I", true)
def t_Space : Nat → FieldType := fun k => match k with
  | 0 => .int
  | 1 => .int
  | 2 => .int
  | 3 => .int
  | _ => .int
def R_Marks : String := "BoxPacker$Marks"
def F_Marks : u_T := fun k => match k with
  | 0 => ("BoxPacker$Marks", "row", "[J", true)
  | _ => ("BoxPacker$Marks", "count", "I", false)
def t_Marks : Nat → FieldType := fun k => match k with
  | 0 => .array .long
  | _ => .int
def R_Mo : String := "BoxPackerModel"
def F_Mo : u_T := fun k => match k with
  | 0 => ("BoxPackerModel", "thrown", "I", false)
  | 1 => ("BoxPackerModel", "kinds", "[I", true)
  | 2 => ("BoxPackerModel", "numbers", "[I", true)
  | 3 => ("BoxPackerModel", "start", "I", false)
  | 4 => ("BoxPackerModel", "end", "I", false)
  | 5 => ("BoxPackerModel", "count", "I", false)
  | 6 => ("BoxPackerModel", "from", "[I", true)
  | 7 => ("BoxPackerModel", "isBelow", "[Z", true)
  | 8 => ("BoxPackerModel", "width", "[I", true)
  | 9 => ("BoxPackerModel", "height", "[I", true)
  | 10 => ("BoxPackerModel", "depth", "[I", true)
  | 11 => ("BoxPackerModel", "excess", "[I", true)
  | 12 => ("BoxPackerModel", "order", "[I", true)
  | 13 => ("BoxPackerModel", "total", "[I", true)
  | 14 => ("BoxPackerModel", "badness", "[I", true)
  | 15 => ("BoxPackerModel", "overfull", "[I", true)
  | 16 => ("BoxPackerModel", "deep", "[I", true)
  | 17 => ("BoxPackerModel", "inAll", "[I", true)
  | 18 => ("BoxPackerModel", "good", "Z", false)
  | 19 => ("BoxPackerModel", "length", "J", false)
  | 20 => ("BoxPackerModel", "before", "J", false)
  | 21 => ("BoxPackerModel", "across", "J", false)
  | 22 => ("BoxPackerModel", "under", "J", false)
  | 23 => ("BoxPackerModel", "stretch", "[J", true)
  | 24 => ("BoxPackerModel", "shrink", "[J", true)
  | 25 => ("BoxPackerModel", "marks", "[J", true)
  | _ => ("BoxPackerModel", "marked", "I", false)
def t_Mo : Nat → FieldType := fun k => match k with
  | 0 => .int
  | 1 => .array .int
  | 2 => .array .int
  | 3 => .int
  | 4 => .int
  | 5 => .int
  | 6 => .array .int
  | 7 => .array .boolean
  | 8 => .array .int
  | 9 => .array .int
  | 10 => .array .int
  | 11 => .array .int
  | 12 => .array .int
  | 13 => .array .int
  | 14 => .array .int
  | 15 => .array .int
  | 16 => .array .int
  | 17 => .array .int
  | 18 => .boolean
  | 19 => .long
  | 20 => .long
  | 21 => .long
  | 22 => .long
  | 23 => .array .long
  | 24 => .array .long
  | 25 => .array .long
  | _ => .int
abbrev CL : List vw_C := [(R_BP, F_BP, 5), (R_Box, F_Box, 12), (R_Solid, F_Solid, 6), (R_Space, F_Space, 5), (R_Marks, F_Marks, 2), (R_Mo, F_Mo, 27)]
/-- the classes of arrays: ints, longs, booleans, items, boxes -/
abbrev TY (cA : Nat → ClassId) : List (ClassId × FieldType) := [(cA 0, .int), (cA 1, .long), (cA 2, .boolean), (cA 3, .object "BoxPacker$Item"), (cA 4, .object "BoxPacker$Box")]
set_option maxRecDepth 20000 in
theorem k_BP : hv_Cl CL TS 0 R_BP F_BP 5 t_BP := ⟨rfl, by decide +kernel, by decide +kernel, by decide +kernel⟩
set_option maxRecDepth 20000 in
theorem k_Box : hv_Cl CL TS 1 R_Box F_Box 12 t_Box := ⟨rfl, by decide +kernel, by decide +kernel, by decide +kernel⟩
set_option maxRecDepth 20000 in
theorem k_Solid : hv_Cl CL TS 2 R_Solid F_Solid 6 t_Solid := ⟨rfl, by decide +kernel, by decide +kernel, by decide +kernel⟩
set_option maxRecDepth 20000 in
theorem k_Space : hv_Cl CL TS 3 R_Space F_Space 5 t_Space := ⟨rfl, by decide +kernel, by decide +kernel, by decide +kernel⟩
set_option maxRecDepth 20000 in
theorem k_Marks : hv_Cl CL TS 4 R_Marks F_Marks 2 t_Marks := ⟨rfl, by decide +kernel, by decide +kernel, by decide +kernel⟩
set_option maxRecDepth 20000 in
theorem k_Mo : hv_Cl CL TS 5 R_Mo F_Mo 27 t_Mo := ⟨rfl, by decide +kernel, by decide +kernel, by decide +kernel⟩
end
section
abbrev b_BP_init : ByteArray := prog_1_method_1_code
def y_BP_init : MethodName := ⟨"BoxPacker", "<init>", "()V"⟩
theorem d_BP_init_0 : decode b_BP_init 0 = .ok (.aload_n 0, 1) := by decide +kernel
theorem d_BP_init_1 : decode b_BP_init 1 = .ok (.invokespecial 1, 3) := by decide +kernel
theorem d_BP_init_4 : decode b_BP_init 4 = .ok (.aload_n 0, 1) := by decide +kernel
theorem d_BP_init_5 : decode b_BP_init 5 = .ok (.bipush 100, 2) := by decide +kernel
theorem d_BP_init_7 : decode b_BP_init 7 = .ok (.anewarray 9, 3) := by decide +kernel
theorem d_BP_init_10 : decode b_BP_init 10 = .ok (.putfield 11, 3) := by decide +kernel
theorem d_BP_init_13 : decode b_BP_init 13 = .ok (.aload_n 0, 1) := by decide +kernel
theorem d_BP_init_14 : decode b_BP_init 14 = .ok (.iconst 0, 1) := by decide +kernel
theorem d_BP_init_15 : decode b_BP_init 15 = .ok (.putfield 15, 3) := by decide +kernel
theorem d_BP_init_18 : decode b_BP_init 18 = .ok (.aload_n 0, 1) := by decide +kernel
theorem d_BP_init_19 : decode b_BP_init 19 = .ok (.bipush 100, 2) := by decide +kernel
theorem d_BP_init_21 : decode b_BP_init 21 = .ok (.anewarray 19, 3) := by decide +kernel
theorem d_BP_init_24 : decode b_BP_init 24 = .ok (.putfield 21, 3) := by decide +kernel
theorem d_BP_init_27 : decode b_BP_init 27 = .ok (.aload_n 0, 1) := by decide +kernel
theorem d_BP_init_28 : decode b_BP_init 28 = .ok (.iconst 0, 1) := by decide +kernel
theorem d_BP_init_29 : decode b_BP_init 29 = .ok (.putfield 25, 3) := by decide +kernel
theorem d_BP_init_32 : decode b_BP_init 32 = .ok (.aload_n 0, 1) := by decide +kernel
theorem d_BP_init_33 : decode b_BP_init 33 = .ok (.new 28, 3) := by decide +kernel
theorem d_BP_init_36 : decode b_BP_init 36 = .ok (.dup, 1) := by decide +kernel
theorem d_BP_init_37 : decode b_BP_init 37 = .ok (.invokespecial 30, 3) := by decide +kernel
theorem d_BP_init_40 : decode b_BP_init 40 = .ok (.putfield 31, 3) := by decide +kernel
theorem d_BP_init_43 : decode b_BP_init 43 = .ok (.return_, 1) := by decide +kernel
abbrev b_BP_leaf : ByteArray := prog_1_method_2_code
def y_BP_leaf : MethodName := ⟨"BoxPacker", "leaf", "(IIII)I"⟩
theorem d_BP_leaf_0 : decode b_BP_leaf 0 = .ok (.iload_n 1, 1) := by decide +kernel
theorem d_BP_leaf_1 : decode b_BP_leaf 1 = .ok (.ifCond .lt 9, 3) := by decide +kernel
theorem d_BP_leaf_4 : decode b_BP_leaf 4 = .ok (.iload_n 1, 1) := by decide +kernel
theorem d_BP_leaf_5 : decode b_BP_leaf 5 = .ok (.ldc 35, 2) := by decide +kernel
theorem d_BP_leaf_7 : decode b_BP_leaf 7 = .ok (.if_icmp .le 13, 3) := by decide +kernel
theorem d_BP_leaf_10 : decode b_BP_leaf 10 = .ok (.new 36, 3) := by decide +kernel
theorem d_BP_leaf_13 : decode b_BP_leaf 13 = .ok (.dup, 1) := by decide +kernel
theorem d_BP_leaf_14 : decode b_BP_leaf 14 = .ok (.ldc 38, 2) := by decide +kernel
theorem d_BP_leaf_16 : decode b_BP_leaf 16 = .ok (.invokespecial 40, 3) := by decide +kernel
theorem d_BP_leaf_19 : decode b_BP_leaf 19 = .ok (.athrow, 1) := by decide +kernel
theorem d_BP_leaf_20 : decode b_BP_leaf 20 = .ok (.iload_n 2, 1) := by decide +kernel
theorem d_BP_leaf_21 : decode b_BP_leaf 21 = .ok (.i2l, 1) := by decide +kernel
theorem d_BP_leaf_22 : decode b_BP_leaf 22 = .ok (.invokestatic 43, 3) := by decide +kernel
theorem d_BP_leaf_25 : decode b_BP_leaf 25 = .ok (.ifCond .eq 20, 3) := by decide +kernel
theorem d_BP_leaf_28 : decode b_BP_leaf 28 = .ok (.iload_n 3, 1) := by decide +kernel
theorem d_BP_leaf_29 : decode b_BP_leaf 29 = .ok (.i2l, 1) := by decide +kernel
theorem d_BP_leaf_30 : decode b_BP_leaf 30 = .ok (.invokestatic 43, 3) := by decide +kernel
theorem d_BP_leaf_33 : decode b_BP_leaf 33 = .ok (.ifCond .eq 12, 3) := by decide +kernel
theorem d_BP_leaf_36 : decode b_BP_leaf 36 = .ok (.iload 4, 2) := by decide +kernel
theorem d_BP_leaf_38 : decode b_BP_leaf 38 = .ok (.i2l, 1) := by decide +kernel
theorem d_BP_leaf_39 : decode b_BP_leaf 39 = .ok (.invokestatic 43, 3) := by decide +kernel
theorem d_BP_leaf_42 : decode b_BP_leaf 42 = .ok (.ifCond .ne 13, 3) := by decide +kernel
theorem d_BP_leaf_45 : decode b_BP_leaf 45 = .ok (.new 36, 3) := by decide +kernel
theorem d_BP_leaf_48 : decode b_BP_leaf 48 = .ok (.dup, 1) := by decide +kernel
theorem d_BP_leaf_49 : decode b_BP_leaf 49 = .ok (.ldc 47, 2) := by decide +kernel
theorem d_BP_leaf_51 : decode b_BP_leaf 51 = .ok (.invokespecial 40, 3) := by decide +kernel
theorem d_BP_leaf_54 : decode b_BP_leaf 54 = .ok (.athrow, 1) := by decide +kernel
theorem d_BP_leaf_55 : decode b_BP_leaf 55 = .ok (.aload_n 0, 1) := by decide +kernel
theorem d_BP_leaf_56 : decode b_BP_leaf 56 = .ok (.invokevirtual 49, 3) := by decide +kernel
theorem d_BP_leaf_59 : decode b_BP_leaf 59 = .ok (.aload_n 0, 1) := by decide +kernel
theorem d_BP_leaf_60 : decode b_BP_leaf 60 = .ok (.new 52, 3) := by decide +kernel
theorem d_BP_leaf_63 : decode b_BP_leaf 63 = .ok (.dup, 1) := by decide +kernel
theorem d_BP_leaf_64 : decode b_BP_leaf 64 = .ok (.iload_n 1, 1) := by decide +kernel
theorem d_BP_leaf_65 : decode b_BP_leaf 65 = .ok (.iload_n 2, 1) := by decide +kernel
theorem d_BP_leaf_66 : decode b_BP_leaf 66 = .ok (.iload_n 3, 1) := by decide +kernel
theorem d_BP_leaf_67 : decode b_BP_leaf 67 = .ok (.iload 4, 2) := by decide +kernel
theorem d_BP_leaf_69 : decode b_BP_leaf 69 = .ok (.aconst_null, 1) := by decide +kernel
theorem d_BP_leaf_70 : decode b_BP_leaf 70 = .ok (.iconst 0, 1) := by decide +kernel
theorem d_BP_leaf_71 : decode b_BP_leaf 71 = .ok (.invokespecial 54, 3) := by decide +kernel
theorem d_BP_leaf_74 : decode b_BP_leaf 74 = .ok (.invokevirtual 57, 3) := by decide +kernel
theorem d_BP_leaf_77 : decode b_BP_leaf 77 = .ok (.ireturn, 1) := by decide +kernel
abbrev b_BP_rule : ByteArray := prog_1_method_3_code
def y_BP_rule : MethodName := ⟨"BoxPacker", "rule", "(III)I"⟩
theorem d_BP_rule_0 : decode b_BP_rule 0 = .ok (.iload_n 1, 1) := by decide +kernel
theorem d_BP_rule_1 : decode b_BP_rule 1 = .ok (.invokestatic 61, 3) := by decide +kernel
theorem d_BP_rule_4 : decode b_BP_rule 4 = .ok (.ifCond .eq 17, 3) := by decide +kernel
theorem d_BP_rule_7 : decode b_BP_rule 7 = .ok (.iload_n 2, 1) := by decide +kernel
theorem d_BP_rule_8 : decode b_BP_rule 8 = .ok (.invokestatic 61, 3) := by decide +kernel
theorem d_BP_rule_11 : decode b_BP_rule 11 = .ok (.ifCond .eq 10, 3) := by decide +kernel
theorem d_BP_rule_14 : decode b_BP_rule 14 = .ok (.iload_n 3, 1) := by decide +kernel
theorem d_BP_rule_15 : decode b_BP_rule 15 = .ok (.invokestatic 61, 3) := by decide +kernel
theorem d_BP_rule_18 : decode b_BP_rule 18 = .ok (.ifCond .ne 13, 3) := by decide +kernel
theorem d_BP_rule_21 : decode b_BP_rule 21 = .ok (.new 36, 3) := by decide +kernel
theorem d_BP_rule_24 : decode b_BP_rule 24 = .ok (.dup, 1) := by decide +kernel
theorem d_BP_rule_25 : decode b_BP_rule 25 = .ok (.ldc 65, 2) := by decide +kernel
theorem d_BP_rule_27 : decode b_BP_rule 27 = .ok (.invokespecial 40, 3) := by decide +kernel
theorem d_BP_rule_30 : decode b_BP_rule 30 = .ok (.athrow, 1) := by decide +kernel
theorem d_BP_rule_31 : decode b_BP_rule 31 = .ok (.aload_n 0, 1) := by decide +kernel
theorem d_BP_rule_32 : decode b_BP_rule 32 = .ok (.invokevirtual 49, 3) := by decide +kernel
theorem d_BP_rule_35 : decode b_BP_rule 35 = .ok (.aload_n 0, 1) := by decide +kernel
theorem d_BP_rule_36 : decode b_BP_rule 36 = .ok (.new 52, 3) := by decide +kernel
theorem d_BP_rule_39 : decode b_BP_rule 39 = .ok (.dup, 1) := by decide +kernel
theorem d_BP_rule_40 : decode b_BP_rule 40 = .ok (.iconst (-1), 1) := by decide +kernel
theorem d_BP_rule_41 : decode b_BP_rule 41 = .ok (.iload_n 1, 1) := by decide +kernel
theorem d_BP_rule_42 : decode b_BP_rule 42 = .ok (.iload_n 2, 1) := by decide +kernel
theorem d_BP_rule_43 : decode b_BP_rule 43 = .ok (.iload_n 3, 1) := by decide +kernel
theorem d_BP_rule_44 : decode b_BP_rule 44 = .ok (.aconst_null, 1) := by decide +kernel
theorem d_BP_rule_45 : decode b_BP_rule 45 = .ok (.iconst 0, 1) := by decide +kernel
theorem d_BP_rule_46 : decode b_BP_rule 46 = .ok (.invokespecial 54, 3) := by decide +kernel
theorem d_BP_rule_49 : decode b_BP_rule 49 = .ok (.invokevirtual 57, 3) := by decide +kernel
theorem d_BP_rule_52 : decode b_BP_rule 52 = .ok (.ireturn, 1) := by decide +kernel
abbrev b_BP_glue : ByteArray := prog_1_method_4_code
def y_BP_glue : MethodName := ⟨"BoxPacker", "glue", "(IIIII)I"⟩
theorem d_BP_glue_0 : decode b_BP_glue 0 = .ok (.iload_n 1, 1) := by decide +kernel
theorem d_BP_glue_1 : decode b_BP_glue 1 = .ok (.i2l, 1) := by decide +kernel
theorem d_BP_glue_2 : decode b_BP_glue 2 = .ok (.invokestatic 43, 3) := by decide +kernel
theorem d_BP_glue_5 : decode b_BP_glue 5 = .ok (.ifCond .ne 13, 3) := by decide +kernel
theorem d_BP_glue_8 : decode b_BP_glue 8 = .ok (.new 36, 3) := by decide +kernel
theorem d_BP_glue_11 : decode b_BP_glue 11 = .ok (.dup, 1) := by decide +kernel
theorem d_BP_glue_12 : decode b_BP_glue 12 = .ok (.ldc 67, 2) := by decide +kernel
theorem d_BP_glue_14 : decode b_BP_glue 14 = .ok (.invokespecial 40, 3) := by decide +kernel
theorem d_BP_glue_17 : decode b_BP_glue 17 = .ok (.athrow, 1) := by decide +kernel
theorem d_BP_glue_18 : decode b_BP_glue 18 = .ok (.iload_n 2, 1) := by decide +kernel
theorem d_BP_glue_19 : decode b_BP_glue 19 = .ok (.i2l, 1) := by decide +kernel
theorem d_BP_glue_20 : decode b_BP_glue 20 = .ok (.invokestatic 43, 3) := by decide +kernel
theorem d_BP_glue_23 : decode b_BP_glue 23 = .ok (.ifCond .eq 21, 3) := by decide +kernel
theorem d_BP_glue_26 : decode b_BP_glue 26 = .ok (.iload_n 2, 1) := by decide +kernel
theorem d_BP_glue_27 : decode b_BP_glue 27 = .ok (.ifCond .lt 17, 3) := by decide +kernel
theorem d_BP_glue_30 : decode b_BP_glue 30 = .ok (.iload 4, 2) := by decide +kernel
theorem d_BP_glue_32 : decode b_BP_glue 32 = .ok (.i2l, 1) := by decide +kernel
theorem d_BP_glue_33 : decode b_BP_glue 33 = .ok (.invokestatic 43, 3) := by decide +kernel
theorem d_BP_glue_36 : decode b_BP_glue 36 = .ok (.ifCond .eq 8, 3) := by decide +kernel
theorem d_BP_glue_39 : decode b_BP_glue 39 = .ok (.iload 4, 2) := by decide +kernel
theorem d_BP_glue_41 : decode b_BP_glue 41 = .ok (.ifCond .ge 13, 3) := by decide +kernel
theorem d_BP_glue_44 : decode b_BP_glue 44 = .ok (.new 36, 3) := by decide +kernel
theorem d_BP_glue_47 : decode b_BP_glue 47 = .ok (.dup, 1) := by decide +kernel
theorem d_BP_glue_48 : decode b_BP_glue 48 = .ok (.ldc 69, 2) := by decide +kernel
theorem d_BP_glue_50 : decode b_BP_glue 50 = .ok (.invokespecial 40, 3) := by decide +kernel
theorem d_BP_glue_53 : decode b_BP_glue 53 = .ok (.athrow, 1) := by decide +kernel
theorem d_BP_glue_54 : decode b_BP_glue 54 = .ok (.iload_n 3, 1) := by decide +kernel
theorem d_BP_glue_55 : decode b_BP_glue 55 = .ok (.invokestatic 71, 3) := by decide +kernel
theorem d_BP_glue_58 : decode b_BP_glue 58 = .ok (.ifCond .eq 11, 3) := by decide +kernel
theorem d_BP_glue_61 : decode b_BP_glue 61 = .ok (.iload 5, 2) := by decide +kernel
theorem d_BP_glue_63 : decode b_BP_glue 63 = .ok (.invokestatic 71, 3) := by decide +kernel
theorem d_BP_glue_66 : decode b_BP_glue 66 = .ok (.ifCond .ne 13, 3) := by decide +kernel
theorem d_BP_glue_69 : decode b_BP_glue 69 = .ok (.new 36, 3) := by decide +kernel
theorem d_BP_glue_72 : decode b_BP_glue 72 = .ok (.dup, 1) := by decide +kernel
theorem d_BP_glue_73 : decode b_BP_glue 73 = .ok (.ldc 74, 2) := by decide +kernel
theorem d_BP_glue_75 : decode b_BP_glue 75 = .ok (.invokespecial 40, 3) := by decide +kernel
theorem d_BP_glue_78 : decode b_BP_glue 78 = .ok (.athrow, 1) := by decide +kernel
theorem d_BP_glue_79 : decode b_BP_glue 79 = .ok (.aload_n 0, 1) := by decide +kernel
theorem d_BP_glue_80 : decode b_BP_glue 80 = .ok (.invokevirtual 49, 3) := by decide +kernel
theorem d_BP_glue_83 : decode b_BP_glue 83 = .ok (.aload_n 0, 1) := by decide +kernel
theorem d_BP_glue_84 : decode b_BP_glue 84 = .ok (.new 76, 3) := by decide +kernel
theorem d_BP_glue_87 : decode b_BP_glue 87 = .ok (.dup, 1) := by decide +kernel
theorem d_BP_glue_88 : decode b_BP_glue 88 = .ok (.iload_n 1, 1) := by decide +kernel
theorem d_BP_glue_89 : decode b_BP_glue 89 = .ok (.iload_n 2, 1) := by decide +kernel
theorem d_BP_glue_90 : decode b_BP_glue 90 = .ok (.iload_n 3, 1) := by decide +kernel
theorem d_BP_glue_91 : decode b_BP_glue 91 = .ok (.iload 4, 2) := by decide +kernel
theorem d_BP_glue_93 : decode b_BP_glue 93 = .ok (.iload 5, 2) := by decide +kernel
theorem d_BP_glue_95 : decode b_BP_glue 95 = .ok (.invokespecial 78, 3) := by decide +kernel
theorem d_BP_glue_98 : decode b_BP_glue 98 = .ok (.invokevirtual 57, 3) := by decide +kernel
theorem d_BP_glue_101 : decode b_BP_glue 101 = .ok (.ireturn, 1) := by decide +kernel
abbrev b_BP_kern : ByteArray := prog_1_method_5_code
def y_BP_kern : MethodName := ⟨"BoxPacker", "kern", "(I)I"⟩
theorem d_BP_kern_0 : decode b_BP_kern 0 = .ok (.iload_n 1, 1) := by decide +kernel
theorem d_BP_kern_1 : decode b_BP_kern 1 = .ok (.i2l, 1) := by decide +kernel
theorem d_BP_kern_2 : decode b_BP_kern 2 = .ok (.invokestatic 43, 3) := by decide +kernel
theorem d_BP_kern_5 : decode b_BP_kern 5 = .ok (.ifCond .ne 13, 3) := by decide +kernel
theorem d_BP_kern_8 : decode b_BP_kern 8 = .ok (.new 36, 3) := by decide +kernel
theorem d_BP_kern_11 : decode b_BP_kern 11 = .ok (.dup, 1) := by decide +kernel
theorem d_BP_kern_12 : decode b_BP_kern 12 = .ok (.ldc 67, 2) := by decide +kernel
theorem d_BP_kern_14 : decode b_BP_kern 14 = .ok (.invokespecial 40, 3) := by decide +kernel
theorem d_BP_kern_17 : decode b_BP_kern 17 = .ok (.athrow, 1) := by decide +kernel
theorem d_BP_kern_18 : decode b_BP_kern 18 = .ok (.aload_n 0, 1) := by decide +kernel
theorem d_BP_kern_19 : decode b_BP_kern 19 = .ok (.invokevirtual 49, 3) := by decide +kernel
theorem d_BP_kern_22 : decode b_BP_kern 22 = .ok (.aload_n 0, 1) := by decide +kernel
theorem d_BP_kern_23 : decode b_BP_kern 23 = .ok (.new 76, 3) := by decide +kernel
theorem d_BP_kern_26 : decode b_BP_kern 26 = .ok (.dup, 1) := by decide +kernel
theorem d_BP_kern_27 : decode b_BP_kern 27 = .ok (.iload_n 1, 1) := by decide +kernel
theorem d_BP_kern_28 : decode b_BP_kern 28 = .ok (.iconst 0, 1) := by decide +kernel
theorem d_BP_kern_29 : decode b_BP_kern 29 = .ok (.iconst 0, 1) := by decide +kernel
theorem d_BP_kern_30 : decode b_BP_kern 30 = .ok (.iconst 0, 1) := by decide +kernel
theorem d_BP_kern_31 : decode b_BP_kern 31 = .ok (.iconst 0, 1) := by decide +kernel
theorem d_BP_kern_32 : decode b_BP_kern 32 = .ok (.invokespecial 78, 3) := by decide +kernel
theorem d_BP_kern_35 : decode b_BP_kern 35 = .ok (.invokevirtual 57, 3) := by decide +kernel
theorem d_BP_kern_38 : decode b_BP_kern 38 = .ok (.ireturn, 1) := by decide +kernel
abbrev b_BP_box : ByteArray := prog_1_method_6_code
def y_BP_box : MethodName := ⟨"BoxPacker", "box", "(II)I"⟩
theorem d_BP_box_0 : decode b_BP_box 0 = .ok (.aload_n 0, 1) := by decide +kernel
theorem d_BP_box_1 : decode b_BP_box 1 = .ok (.iload_n 1, 1) := by decide +kernel
theorem d_BP_box_2 : decode b_BP_box 2 = .ok (.invokevirtual 81, 3) := by decide +kernel
theorem d_BP_box_5 : decode b_BP_box 5 = .ok (.astore_n 3, 1) := by decide +kernel
theorem d_BP_box_6 : decode b_BP_box 6 = .ok (.iload_n 2, 1) := by decide +kernel
theorem d_BP_box_7 : decode b_BP_box 7 = .ok (.i2l, 1) := by decide +kernel
theorem d_BP_box_8 : decode b_BP_box 8 = .ok (.invokestatic 43, 3) := by decide +kernel
theorem d_BP_box_11 : decode b_BP_box 11 = .ok (.ifCond .ne 13, 3) := by decide +kernel
theorem d_BP_box_14 : decode b_BP_box 14 = .ok (.new 36, 3) := by decide +kernel
theorem d_BP_box_17 : decode b_BP_box 17 = .ok (.dup, 1) := by decide +kernel
theorem d_BP_box_18 : decode b_BP_box 18 = .ok (.ldc 85, 2) := by decide +kernel
theorem d_BP_box_20 : decode b_BP_box 20 = .ok (.invokespecial 40, 3) := by decide +kernel
theorem d_BP_box_23 : decode b_BP_box 23 = .ok (.athrow, 1) := by decide +kernel
theorem d_BP_box_24 : decode b_BP_box 24 = .ok (.aload_n 0, 1) := by decide +kernel
theorem d_BP_box_25 : decode b_BP_box 25 = .ok (.invokevirtual 49, 3) := by decide +kernel
theorem d_BP_box_28 : decode b_BP_box 28 = .ok (.aload_n 0, 1) := by decide +kernel
theorem d_BP_box_29 : decode b_BP_box 29 = .ok (.new 52, 3) := by decide +kernel
theorem d_BP_box_32 : decode b_BP_box 32 = .ok (.dup, 1) := by decide +kernel
theorem d_BP_box_33 : decode b_BP_box 33 = .ok (.iconst (-1), 1) := by decide +kernel
theorem d_BP_box_34 : decode b_BP_box 34 = .ok (.aload_n 3, 1) := by decide +kernel
theorem d_BP_box_35 : decode b_BP_box 35 = .ok (.getfield 87, 3) := by decide +kernel
theorem d_BP_box_38 : decode b_BP_box 38 = .ok (.aload_n 3, 1) := by decide +kernel
theorem d_BP_box_39 : decode b_BP_box 39 = .ok (.getfield 90, 3) := by decide +kernel
theorem d_BP_box_42 : decode b_BP_box 42 = .ok (.aload_n 3, 1) := by decide +kernel
theorem d_BP_box_43 : decode b_BP_box 43 = .ok (.getfield 93, 3) := by decide +kernel
theorem d_BP_box_46 : decode b_BP_box 46 = .ok (.aload_n 3, 1) := by decide +kernel
theorem d_BP_box_47 : decode b_BP_box 47 = .ok (.iload_n 2, 1) := by decide +kernel
theorem d_BP_box_48 : decode b_BP_box 48 = .ok (.invokespecial 54, 3) := by decide +kernel
theorem d_BP_box_51 : decode b_BP_box 51 = .ok (.invokevirtual 57, 3) := by decide +kernel
theorem d_BP_box_54 : decode b_BP_box 54 = .ok (.ireturn, 1) := by decide +kernel
abbrev b_BP_keep : ByteArray := prog_1_method_7_code
def y_BP_keep : MethodName := ⟨"BoxPacker", "keep", "(I)Z"⟩
theorem d_BP_keep_0 : decode b_BP_keep 0 = .ok (.iload_n 1, 1) := by decide +kernel
theorem d_BP_keep_1 : decode b_BP_keep 1 = .ok (.ifCond .lt 11, 3) := by decide +kernel
theorem d_BP_keep_4 : decode b_BP_keep 4 = .ok (.iload_n 1, 1) := by decide +kernel
theorem d_BP_keep_5 : decode b_BP_keep 5 = .ok (.aload_n 0, 1) := by decide +kernel
theorem d_BP_keep_6 : decode b_BP_keep 6 = .ok (.getfield 15, 3) := by decide +kernel
theorem d_BP_keep_9 : decode b_BP_keep 9 = .ok (.if_icmp .le 5, 3) := by decide +kernel
theorem d_BP_keep_12 : decode b_BP_keep 12 = .ok (.iconst 0, 1) := by decide +kernel
theorem d_BP_keep_13 : decode b_BP_keep 13 = .ok (.ireturn, 1) := by decide +kernel
theorem d_BP_keep_14 : decode b_BP_keep 14 = .ok (.aload_n 0, 1) := by decide +kernel
theorem d_BP_keep_15 : decode b_BP_keep 15 = .ok (.iload_n 1, 1) := by decide +kernel
theorem d_BP_keep_16 : decode b_BP_keep 16 = .ok (.putfield 15, 3) := by decide +kernel
theorem d_BP_keep_19 : decode b_BP_keep 19 = .ok (.iconst 1, 1) := by decide +kernel
theorem d_BP_keep_20 : decode b_BP_keep 20 = .ok (.ireturn, 1) := by decide +kernel
abbrev b_BP_items : ByteArray := prog_1_method_8_code
def y_BP_items : MethodName := ⟨"BoxPacker", "items", "()I"⟩
theorem d_BP_items_0 : decode b_BP_items 0 = .ok (.aload_n 0, 1) := by decide +kernel
theorem d_BP_items_1 : decode b_BP_items 1 = .ok (.getfield 15, 3) := by decide +kernel
theorem d_BP_items_4 : decode b_BP_items 4 = .ok (.ireturn, 1) := by decide +kernel
abbrev b_BP_pack : ByteArray := prog_1_method_9_code
def y_BP_pack : MethodName := ⟨"BoxPacker", "pack", "(ZIII)I"⟩
theorem d_BP_pack_0 : decode b_BP_pack 0 = .ok (.iload_n 2, 1) := by decide +kernel
theorem d_BP_pack_1 : decode b_BP_pack 1 = .ok (.ifCond .lt 8, 3) := by decide +kernel
theorem d_BP_pack_4 : decode b_BP_pack 4 = .ok (.iload_n 2, 1) := by decide +kernel
theorem d_BP_pack_5 : decode b_BP_pack 5 = .ok (.iconst 2, 1) := by decide +kernel
theorem d_BP_pack_6 : decode b_BP_pack 6 = .ok (.if_icmp .le 13, 3) := by decide +kernel
theorem d_BP_pack_9 : decode b_BP_pack 9 = .ok (.new 36, 3) := by decide +kernel
theorem d_BP_pack_12 : decode b_BP_pack 12 = .ok (.dup, 1) := by decide +kernel
theorem d_BP_pack_13 : decode b_BP_pack 13 = .ok (.ldc 96, 2) := by decide +kernel
theorem d_BP_pack_15 : decode b_BP_pack 15 = .ok (.invokespecial 40, 3) := by decide +kernel
theorem d_BP_pack_18 : decode b_BP_pack 18 = .ok (.athrow, 1) := by decide +kernel
theorem d_BP_pack_19 : decode b_BP_pack 19 = .ok (.iload_n 3, 1) := by decide +kernel
theorem d_BP_pack_20 : decode b_BP_pack 20 = .ok (.i2l, 1) := by decide +kernel
theorem d_BP_pack_21 : decode b_BP_pack 21 = .ok (.invokestatic 43, 3) := by decide +kernel
theorem d_BP_pack_24 : decode b_BP_pack 24 = .ok (.ifCond .eq 12, 3) := by decide +kernel
theorem d_BP_pack_27 : decode b_BP_pack 27 = .ok (.iload 4, 2) := by decide +kernel
theorem d_BP_pack_29 : decode b_BP_pack 29 = .ok (.i2l, 1) := by decide +kernel
theorem d_BP_pack_30 : decode b_BP_pack 30 = .ok (.invokestatic 43, 3) := by decide +kernel
theorem d_BP_pack_33 : decode b_BP_pack 33 = .ok (.ifCond .ne 13, 3) := by decide +kernel
theorem d_BP_pack_36 : decode b_BP_pack 36 = .ok (.new 36, 3) := by decide +kernel
theorem d_BP_pack_39 : decode b_BP_pack 39 = .ok (.dup, 1) := by decide +kernel
theorem d_BP_pack_40 : decode b_BP_pack 40 = .ok (.ldc 98, 2) := by decide +kernel
theorem d_BP_pack_42 : decode b_BP_pack 42 = .ok (.invokespecial 40, 3) := by decide +kernel
theorem d_BP_pack_45 : decode b_BP_pack 45 = .ok (.athrow, 1) := by decide +kernel
theorem d_BP_pack_46 : decode b_BP_pack 46 = .ok (.aload_n 0, 1) := by decide +kernel
theorem d_BP_pack_47 : decode b_BP_pack 47 = .ok (.getfield 25, 3) := by decide +kernel
theorem d_BP_pack_50 : decode b_BP_pack 50 = .ok (.bipush 100, 2) := by decide +kernel
theorem d_BP_pack_52 : decode b_BP_pack 52 = .ok (.if_icmp .lt 13, 3) := by decide +kernel
theorem d_BP_pack_55 : decode b_BP_pack 55 = .ok (.new 100, 3) := by decide +kernel
theorem d_BP_pack_58 : decode b_BP_pack 58 = .ok (.dup, 1) := by decide +kernel
theorem d_BP_pack_59 : decode b_BP_pack 59 = .ok (.ldc 102, 2) := by decide +kernel
theorem d_BP_pack_61 : decode b_BP_pack 61 = .ok (.invokespecial 104, 3) := by decide +kernel
theorem d_BP_pack_64 : decode b_BP_pack 64 = .ok (.athrow, 1) := by decide +kernel
theorem d_BP_pack_65 : decode b_BP_pack 65 = .ok (.new 19, 3) := by decide +kernel
theorem d_BP_pack_68 : decode b_BP_pack 68 = .ok (.dup, 1) := by decide +kernel
theorem d_BP_pack_69 : decode b_BP_pack 69 = .ok (.iload_n 1, 1) := by decide +kernel
theorem d_BP_pack_70 : decode b_BP_pack 70 = .ok (.aload_n 0, 1) := by decide +kernel
theorem d_BP_pack_71 : decode b_BP_pack 71 = .ok (.getfield 11, 3) := by decide +kernel
theorem d_BP_pack_74 : decode b_BP_pack 74 = .ok (.aload_n 0, 1) := by decide +kernel
theorem d_BP_pack_75 : decode b_BP_pack 75 = .ok (.getfield 15, 3) := by decide +kernel
theorem d_BP_pack_78 : decode b_BP_pack 78 = .ok (.invokespecial 105, 3) := by decide +kernel
theorem d_BP_pack_81 : decode b_BP_pack 81 = .ok (.astore 5, 2) := by decide +kernel
theorem d_BP_pack_83 : decode b_BP_pack 83 = .ok (.aload 5, 2) := by decide +kernel
theorem d_BP_pack_85 : decode b_BP_pack 85 = .ok (.getfield 108, 3) := by decide +kernel
theorem d_BP_pack_88 : decode b_BP_pack 88 = .ok (.bipush 10, 2) := by decide +kernel
theorem d_BP_pack_90 : decode b_BP_pack 90 = .ok (.if_icmp .le 13, 3) := by decide +kernel
theorem d_BP_pack_93 : decode b_BP_pack 93 = .ok (.new 100, 3) := by decide +kernel
theorem d_BP_pack_96 : decode b_BP_pack 96 = .ok (.dup, 1) := by decide +kernel
theorem d_BP_pack_97 : decode b_BP_pack 97 = .ok (.ldc 111, 2) := by decide +kernel
theorem d_BP_pack_99 : decode b_BP_pack 99 = .ok (.invokespecial 104, 3) := by decide +kernel
theorem d_BP_pack_102 : decode b_BP_pack 102 = .ok (.athrow, 1) := by decide +kernel
theorem d_BP_pack_103 : decode b_BP_pack 103 = .ok (.aload 5, 2) := by decide +kernel
theorem d_BP_pack_105 : decode b_BP_pack 105 = .ok (.iload_n 2, 1) := by decide +kernel
theorem d_BP_pack_106 : decode b_BP_pack 106 = .ok (.iload_n 3, 1) := by decide +kernel
theorem d_BP_pack_107 : decode b_BP_pack 107 = .ok (.iload 4, 2) := by decide +kernel
theorem d_BP_pack_109 : decode b_BP_pack 109 = .ok (.invokevirtual 113, 3) := by decide +kernel
theorem d_BP_pack_112 : decode b_BP_pack 112 = .ok (.aload_n 0, 1) := by decide +kernel
theorem d_BP_pack_113 : decode b_BP_pack 113 = .ok (.getfield 25, 3) := by decide +kernel
theorem d_BP_pack_116 : decode b_BP_pack 116 = .ok (.istore 6, 2) := by decide +kernel
theorem d_BP_pack_118 : decode b_BP_pack 118 = .ok (.aload_n 0, 1) := by decide +kernel
theorem d_BP_pack_119 : decode b_BP_pack 119 = .ok (.getfield 21, 3) := by decide +kernel
theorem d_BP_pack_122 : decode b_BP_pack 122 = .ok (.iload 6, 2) := by decide +kernel
theorem d_BP_pack_124 : decode b_BP_pack 124 = .ok (.aload 5, 2) := by decide +kernel
theorem d_BP_pack_126 : decode b_BP_pack 126 = .ok (.aastore, 1) := by decide +kernel
theorem d_BP_pack_127 : decode b_BP_pack 127 = .ok (.aload_n 0, 1) := by decide +kernel
theorem d_BP_pack_128 : decode b_BP_pack 128 = .ok (.dup, 1) := by decide +kernel
theorem d_BP_pack_129 : decode b_BP_pack 129 = .ok (.getfield 25, 3) := by decide +kernel
theorem d_BP_pack_132 : decode b_BP_pack 132 = .ok (.iconst 1, 1) := by decide +kernel
theorem d_BP_pack_133 : decode b_BP_pack 133 = .ok (.iadd, 1) := by decide +kernel
theorem d_BP_pack_134 : decode b_BP_pack 134 = .ok (.putfield 25, 3) := by decide +kernel
theorem d_BP_pack_137 : decode b_BP_pack 137 = .ok (.aload_n 0, 1) := by decide +kernel
theorem d_BP_pack_138 : decode b_BP_pack 138 = .ok (.iconst 0, 1) := by decide +kernel
theorem d_BP_pack_139 : decode b_BP_pack 139 = .ok (.putfield 15, 3) := by decide +kernel
theorem d_BP_pack_142 : decode b_BP_pack 142 = .ok (.iload 6, 2) := by decide +kernel
theorem d_BP_pack_144 : decode b_BP_pack 144 = .ok (.ireturn, 1) := by decide +kernel
abbrev b_BP_boxes : ByteArray := prog_1_method_10_code
def y_BP_boxes : MethodName := ⟨"BoxPacker", "boxes", "()I"⟩
theorem d_BP_boxes_0 : decode b_BP_boxes 0 = .ok (.aload_n 0, 1) := by decide +kernel
theorem d_BP_boxes_1 : decode b_BP_boxes 1 = .ok (.getfield 25, 3) := by decide +kernel
theorem d_BP_boxes_4 : decode b_BP_boxes 4 = .ok (.ireturn, 1) := by decide +kernel
abbrev b_BP_of : ByteArray := prog_1_method_11_code
def y_BP_of : MethodName := ⟨"BoxPacker", "of", "(II)I"⟩
theorem d_BP_of_0 : decode b_BP_of 0 = .ok (.aload_n 0, 1) := by decide +kernel
theorem d_BP_of_1 : decode b_BP_of 1 = .ok (.iload_n 1, 1) := by decide +kernel
theorem d_BP_of_2 : decode b_BP_of 2 = .ok (.invokevirtual 81, 3) := by decide +kernel
theorem d_BP_of_5 : decode b_BP_of 5 = .ok (.astore_n 3, 1) := by decide +kernel
theorem d_BP_of_6 : decode b_BP_of 6 = .ok (.iload_n 2, 1) := by decide +kernel
theorem d_BP_of_7 : decode b_BP_of 7 = .ok (.tableswitch 113 0 10 #[57, 62, 67, 72, 77, 82, 87, 92, 97, 102, 108], 57) := by decide +kernel
theorem d_BP_of_64 : decode b_BP_of 64 = .ok (.aload_n 3, 1) := by decide +kernel
theorem d_BP_of_65 : decode b_BP_of 65 = .ok (.getfield 87, 3) := by decide +kernel
theorem d_BP_of_68 : decode b_BP_of 68 = .ok (.ireturn, 1) := by decide +kernel
theorem d_BP_of_69 : decode b_BP_of 69 = .ok (.aload_n 3, 1) := by decide +kernel
theorem d_BP_of_70 : decode b_BP_of 70 = .ok (.getfield 90, 3) := by decide +kernel
theorem d_BP_of_73 : decode b_BP_of 73 = .ok (.ireturn, 1) := by decide +kernel
theorem d_BP_of_74 : decode b_BP_of 74 = .ok (.aload_n 3, 1) := by decide +kernel
theorem d_BP_of_75 : decode b_BP_of 75 = .ok (.getfield 93, 3) := by decide +kernel
theorem d_BP_of_78 : decode b_BP_of 78 = .ok (.ireturn, 1) := by decide +kernel
theorem d_BP_of_79 : decode b_BP_of 79 = .ok (.aload_n 3, 1) := by decide +kernel
theorem d_BP_of_80 : decode b_BP_of 80 = .ok (.getfield 117, 3) := by decide +kernel
theorem d_BP_of_83 : decode b_BP_of 83 = .ok (.ireturn, 1) := by decide +kernel
theorem d_BP_of_84 : decode b_BP_of 84 = .ok (.aload_n 3, 1) := by decide +kernel
theorem d_BP_of_85 : decode b_BP_of 85 = .ok (.getfield 120, 3) := by decide +kernel
theorem d_BP_of_88 : decode b_BP_of 88 = .ok (.ireturn, 1) := by decide +kernel
theorem d_BP_of_89 : decode b_BP_of 89 = .ok (.aload_n 3, 1) := by decide +kernel
theorem d_BP_of_90 : decode b_BP_of 90 = .ok (.getfield 123, 3) := by decide +kernel
theorem d_BP_of_93 : decode b_BP_of 93 = .ok (.ireturn, 1) := by decide +kernel
theorem d_BP_of_94 : decode b_BP_of 94 = .ok (.aload_n 3, 1) := by decide +kernel
theorem d_BP_of_95 : decode b_BP_of 95 = .ok (.invokevirtual 126, 3) := by decide +kernel
theorem d_BP_of_98 : decode b_BP_of 98 = .ok (.ireturn, 1) := by decide +kernel
theorem d_BP_of_99 : decode b_BP_of 99 = .ok (.aload_n 3, 1) := by decide +kernel
theorem d_BP_of_100 : decode b_BP_of 100 = .ok (.getfield 130, 3) := by decide +kernel
theorem d_BP_of_103 : decode b_BP_of 103 = .ok (.ireturn, 1) := by decide +kernel
theorem d_BP_of_104 : decode b_BP_of 104 = .ok (.aload_n 3, 1) := by decide +kernel
theorem d_BP_of_105 : decode b_BP_of 105 = .ok (.getfield 108, 3) := by decide +kernel
theorem d_BP_of_108 : decode b_BP_of 108 = .ok (.ireturn, 1) := by decide +kernel
theorem d_BP_of_109 : decode b_BP_of 109 = .ok (.aload_n 3, 1) := by decide +kernel
theorem d_BP_of_110 : decode b_BP_of 110 = .ok (.getfield 133, 3) := by decide +kernel
theorem d_BP_of_113 : decode b_BP_of 113 = .ok (.arraylength, 1) := by decide +kernel
theorem d_BP_of_114 : decode b_BP_of 114 = .ok (.ireturn, 1) := by decide +kernel
theorem d_BP_of_115 : decode b_BP_of 115 = .ok (.aload_n 3, 1) := by decide +kernel
theorem d_BP_of_116 : decode b_BP_of 116 = .ok (.getfield 136, 3) := by decide +kernel
theorem d_BP_of_119 : decode b_BP_of 119 = .ok (.ireturn, 1) := by decide +kernel
theorem d_BP_of_120 : decode b_BP_of 120 = .ok (.new 139, 3) := by decide +kernel
theorem d_BP_of_123 : decode b_BP_of 123 = .ok (.dup, 1) := by decide +kernel
theorem d_BP_of_124 : decode b_BP_of 124 = .ok (.ldc 141, 2) := by decide +kernel
theorem d_BP_of_126 : decode b_BP_of 126 = .ok (.invokespecial 143, 3) := by decide +kernel
theorem d_BP_of_129 : decode b_BP_of 129 = .ok (.athrow, 1) := by decide +kernel
abbrev b_BP_place : ByteArray := prog_1_method_12_code
def y_BP_place : MethodName := ⟨"BoxPacker", "place", "(II)I"⟩
theorem d_BP_place_0 : decode b_BP_place 0 = .ok (.aload_n 0, 1) := by decide +kernel
theorem d_BP_place_1 : decode b_BP_place 1 = .ok (.iload_n 1, 1) := by decide +kernel
theorem d_BP_place_2 : decode b_BP_place 2 = .ok (.invokevirtual 81, 3) := by decide +kernel
theorem d_BP_place_5 : decode b_BP_place 5 = .ok (.astore_n 3, 1) := by decide +kernel
theorem d_BP_place_6 : decode b_BP_place 6 = .ok (.iload_n 2, 1) := by decide +kernel
theorem d_BP_place_7 : decode b_BP_place 7 = .ok (.ifCond .lt 12, 3) := by decide +kernel
theorem d_BP_place_10 : decode b_BP_place 10 = .ok (.iload_n 2, 1) := by decide +kernel
theorem d_BP_place_11 : decode b_BP_place 11 = .ok (.aload_n 3, 1) := by decide +kernel
theorem d_BP_place_12 : decode b_BP_place 12 = .ok (.getfield 144, 3) := by decide +kernel
theorem d_BP_place_15 : decode b_BP_place 15 = .ok (.arraylength, 1) := by decide +kernel
theorem d_BP_place_16 : decode b_BP_place 16 = .ok (.if_icmp .lt 13, 3) := by decide +kernel
theorem d_BP_place_19 : decode b_BP_place 19 = .ok (.new 139, 3) := by decide +kernel
theorem d_BP_place_22 : decode b_BP_place 22 = .ok (.dup, 1) := by decide +kernel
theorem d_BP_place_23 : decode b_BP_place 23 = .ok (.ldc 148, 2) := by decide +kernel
theorem d_BP_place_25 : decode b_BP_place 25 = .ok (.invokespecial 143, 3) := by decide +kernel
theorem d_BP_place_28 : decode b_BP_place 28 = .ok (.athrow, 1) := by decide +kernel
theorem d_BP_place_29 : decode b_BP_place 29 = .ok (.aload_n 3, 1) := by decide +kernel
theorem d_BP_place_30 : decode b_BP_place 30 = .ok (.getfield 144, 3) := by decide +kernel
theorem d_BP_place_33 : decode b_BP_place 33 = .ok (.iload_n 2, 1) := by decide +kernel
theorem d_BP_place_34 : decode b_BP_place 34 = .ok (.iaload, 1) := by decide +kernel
theorem d_BP_place_35 : decode b_BP_place 35 = .ok (.ireturn, 1) := by decide +kernel
abbrev b_BP_lay : ByteArray := prog_1_method_13_code
def y_BP_lay : MethodName := ⟨"BoxPacker", "lay", "(III)I"⟩
theorem d_BP_lay_0 : decode b_BP_lay 0 = .ok (.aload_n 0, 1) := by decide +kernel
theorem d_BP_lay_1 : decode b_BP_lay 1 = .ok (.iload_n 1, 1) := by decide +kernel
theorem d_BP_lay_2 : decode b_BP_lay 2 = .ok (.invokevirtual 81, 3) := by decide +kernel
theorem d_BP_lay_5 : decode b_BP_lay 5 = .ok (.astore 4, 2) := by decide +kernel
theorem d_BP_lay_7 : decode b_BP_lay 7 = .ok (.iload_n 2, 1) := by decide +kernel
theorem d_BP_lay_8 : decode b_BP_lay 8 = .ok (.i2l, 1) := by decide +kernel
theorem d_BP_lay_9 : decode b_BP_lay 9 = .ok (.invokestatic 43, 3) := by decide +kernel
theorem d_BP_lay_12 : decode b_BP_lay 12 = .ok (.ifCond .eq 11, 3) := by decide +kernel
theorem d_BP_lay_15 : decode b_BP_lay 15 = .ok (.iload_n 3, 1) := by decide +kernel
theorem d_BP_lay_16 : decode b_BP_lay 16 = .ok (.i2l, 1) := by decide +kernel
theorem d_BP_lay_17 : decode b_BP_lay 17 = .ok (.invokestatic 43, 3) := by decide +kernel
theorem d_BP_lay_20 : decode b_BP_lay 20 = .ok (.ifCond .ne 13, 3) := by decide +kernel
theorem d_BP_lay_23 : decode b_BP_lay 23 = .ok (.new 36, 3) := by decide +kernel
theorem d_BP_lay_26 : decode b_BP_lay 26 = .ok (.dup, 1) := by decide +kernel
theorem d_BP_lay_27 : decode b_BP_lay 27 = .ok (.ldc 150, 2) := by decide +kernel
theorem d_BP_lay_29 : decode b_BP_lay 29 = .ok (.invokespecial 40, 3) := by decide +kernel
theorem d_BP_lay_32 : decode b_BP_lay 32 = .ok (.athrow, 1) := by decide +kernel
theorem d_BP_lay_33 : decode b_BP_lay 33 = .ok (.aload_n 0, 1) := by decide +kernel
theorem d_BP_lay_34 : decode b_BP_lay 34 = .ok (.getfield 31, 3) := by decide +kernel
theorem d_BP_lay_37 : decode b_BP_lay 37 = .ok (.invokevirtual 152, 3) := by decide +kernel
theorem d_BP_lay_40 : decode b_BP_lay 40 = .ok (.aload 4, 2) := by decide +kernel
theorem d_BP_lay_42 : decode b_BP_lay 42 = .ok (.getfield 136, 3) := by decide +kernel
theorem d_BP_lay_45 : decode b_BP_lay 45 = .ok (.sipush 20000, 3) := by decide +kernel
theorem d_BP_lay_48 : decode b_BP_lay 48 = .ok (.if_icmp .gt 16, 3) := by decide +kernel
theorem d_BP_lay_51 : decode b_BP_lay 51 = .ok (.aload_n 0, 1) := by decide +kernel
theorem d_BP_lay_52 : decode b_BP_lay 52 = .ok (.aload 4, 2) := by decide +kernel
theorem d_BP_lay_54 : decode b_BP_lay 54 = .ok (.iload_n 2, 1) := by decide +kernel
theorem d_BP_lay_55 : decode b_BP_lay 55 = .ok (.i2l, 1) := by decide +kernel
theorem d_BP_lay_56 : decode b_BP_lay 56 = .ok (.iload_n 3, 1) := by decide +kernel
theorem d_BP_lay_57 : decode b_BP_lay 57 = .ok (.i2l, 1) := by decide +kernel
theorem d_BP_lay_58 : decode b_BP_lay 58 = .ok (.invokevirtual 155, 3) := by decide +kernel
theorem d_BP_lay_61 : decode b_BP_lay 61 = .ok (.ifCond .ne 12, 3) := by decide +kernel
theorem d_BP_lay_64 : decode b_BP_lay 64 = .ok (.aload_n 0, 1) := by decide +kernel
theorem d_BP_lay_65 : decode b_BP_lay 65 = .ok (.getfield 31, 3) := by decide +kernel
theorem d_BP_lay_68 : decode b_BP_lay 68 = .ok (.invokevirtual 152, 3) := by decide +kernel
theorem d_BP_lay_71 : decode b_BP_lay 71 = .ok (.iconst (-1), 1) := by decide +kernel
theorem d_BP_lay_72 : decode b_BP_lay 72 = .ok (.ireturn, 1) := by decide +kernel
theorem d_BP_lay_73 : decode b_BP_lay 73 = .ok (.aload_n 0, 1) := by decide +kernel
theorem d_BP_lay_74 : decode b_BP_lay 74 = .ok (.getfield 31, 3) := by decide +kernel
theorem d_BP_lay_77 : decode b_BP_lay 77 = .ok (.getfield 159, 3) := by decide +kernel
theorem d_BP_lay_80 : decode b_BP_lay 80 = .ok (.ireturn, 1) := by decide +kernel
abbrev b_BP_mark : ByteArray := prog_1_method_14_code
def y_BP_mark : MethodName := ⟨"BoxPacker", "mark", "(II)J"⟩
theorem d_BP_mark_0 : decode b_BP_mark 0 = .ok (.iload_n 1, 1) := by decide +kernel
theorem d_BP_mark_1 : decode b_BP_mark 1 = .ok (.ifCond .lt 14, 3) := by decide +kernel
theorem d_BP_mark_4 : decode b_BP_mark 4 = .ok (.iload_n 1, 1) := by decide +kernel
theorem d_BP_mark_5 : decode b_BP_mark 5 = .ok (.aload_n 0, 1) := by decide +kernel
theorem d_BP_mark_6 : decode b_BP_mark 6 = .ok (.getfield 31, 3) := by decide +kernel
theorem d_BP_mark_9 : decode b_BP_mark 9 = .ok (.getfield 159, 3) := by decide +kernel
theorem d_BP_mark_12 : decode b_BP_mark 12 = .ok (.if_icmp .lt 13, 3) := by decide +kernel
theorem d_BP_mark_15 : decode b_BP_mark 15 = .ok (.new 139, 3) := by decide +kernel
theorem d_BP_mark_18 : decode b_BP_mark 18 = .ok (.dup, 1) := by decide +kernel
theorem d_BP_mark_19 : decode b_BP_mark 19 = .ok (.ldc 162, 2) := by decide +kernel
theorem d_BP_mark_21 : decode b_BP_mark 21 = .ok (.invokespecial 143, 3) := by decide +kernel
theorem d_BP_mark_24 : decode b_BP_mark 24 = .ok (.athrow, 1) := by decide +kernel
theorem d_BP_mark_25 : decode b_BP_mark 25 = .ok (.iload_n 2, 1) := by decide +kernel
theorem d_BP_mark_26 : decode b_BP_mark 26 = .ok (.ifCond .lt 9, 3) := by decide +kernel
theorem d_BP_mark_29 : decode b_BP_mark 29 = .ok (.iload_n 2, 1) := by decide +kernel
theorem d_BP_mark_30 : decode b_BP_mark 30 = .ok (.bipush 6, 2) := by decide +kernel
theorem d_BP_mark_32 : decode b_BP_mark 32 = .ok (.if_icmp .lt 13, 3) := by decide +kernel
theorem d_BP_mark_35 : decode b_BP_mark 35 = .ok (.new 139, 3) := by decide +kernel
theorem d_BP_mark_38 : decode b_BP_mark 38 = .ok (.dup, 1) := by decide +kernel
theorem d_BP_mark_39 : decode b_BP_mark 39 = .ok (.ldc 164, 2) := by decide +kernel
theorem d_BP_mark_41 : decode b_BP_mark 41 = .ok (.invokespecial 143, 3) := by decide +kernel
theorem d_BP_mark_44 : decode b_BP_mark 44 = .ok (.athrow, 1) := by decide +kernel
theorem d_BP_mark_45 : decode b_BP_mark 45 = .ok (.aload_n 0, 1) := by decide +kernel
theorem d_BP_mark_46 : decode b_BP_mark 46 = .ok (.getfield 31, 3) := by decide +kernel
theorem d_BP_mark_49 : decode b_BP_mark 49 = .ok (.getfield 166, 3) := by decide +kernel
theorem d_BP_mark_52 : decode b_BP_mark 52 = .ok (.iload_n 1, 1) := by decide +kernel
theorem d_BP_mark_53 : decode b_BP_mark 53 = .ok (.bipush 6, 2) := by decide +kernel
theorem d_BP_mark_55 : decode b_BP_mark 55 = .ok (.imul, 1) := by decide +kernel
theorem d_BP_mark_56 : decode b_BP_mark 56 = .ok (.iload_n 2, 1) := by decide +kernel
theorem d_BP_mark_57 : decode b_BP_mark 57 = .ok (.iadd, 1) := by decide +kernel
theorem d_BP_mark_58 : decode b_BP_mark 58 = .ok (.laload, 1) := by decide +kernel
theorem d_BP_mark_59 : decode b_BP_mark 59 = .ok (.lreturn, 1) := by decide +kernel
abbrev b_BP_refuseWhenFull : ByteArray := prog_1_method_15_code
def y_BP_refuseWhenFull : MethodName := ⟨"BoxPacker", "refuseWhenFull", "()V"⟩
theorem d_BP_refuseWhenFull_0 : decode b_BP_refuseWhenFull 0 = .ok (.aload_n 0, 1) := by decide +kernel
theorem d_BP_refuseWhenFull_1 : decode b_BP_refuseWhenFull 1 = .ok (.getfield 15, 3) := by decide +kernel
theorem d_BP_refuseWhenFull_4 : decode b_BP_refuseWhenFull 4 = .ok (.bipush 100, 2) := by decide +kernel
theorem d_BP_refuseWhenFull_6 : decode b_BP_refuseWhenFull 6 = .ok (.if_icmp .lt 13, 3) := by decide +kernel
theorem d_BP_refuseWhenFull_9 : decode b_BP_refuseWhenFull 9 = .ok (.new 100, 3) := by decide +kernel
theorem d_BP_refuseWhenFull_12 : decode b_BP_refuseWhenFull 12 = .ok (.dup, 1) := by decide +kernel
theorem d_BP_refuseWhenFull_13 : decode b_BP_refuseWhenFull 13 = .ok (.ldc 170, 2) := by decide +kernel
theorem d_BP_refuseWhenFull_15 : decode b_BP_refuseWhenFull 15 = .ok (.invokespecial 104, 3) := by decide +kernel
theorem d_BP_refuseWhenFull_18 : decode b_BP_refuseWhenFull 18 = .ok (.athrow, 1) := by decide +kernel
theorem d_BP_refuseWhenFull_19 : decode b_BP_refuseWhenFull 19 = .ok (.return_, 1) := by decide +kernel
abbrev b_BP_append : ByteArray := prog_1_method_16_code
def y_BP_append : MethodName := ⟨"BoxPacker", "append", "(LBoxPacker$Item;)I"⟩
theorem d_BP_append_0 : decode b_BP_append 0 = .ok (.aload_n 0, 1) := by decide +kernel
theorem d_BP_append_1 : decode b_BP_append 1 = .ok (.getfield 15, 3) := by decide +kernel
theorem d_BP_append_4 : decode b_BP_append 4 = .ok (.istore_n 2, 1) := by decide +kernel
theorem d_BP_append_5 : decode b_BP_append 5 = .ok (.aload_n 0, 1) := by decide +kernel
theorem d_BP_append_6 : decode b_BP_append 6 = .ok (.getfield 11, 3) := by decide +kernel
theorem d_BP_append_9 : decode b_BP_append 9 = .ok (.iload_n 2, 1) := by decide +kernel
theorem d_BP_append_10 : decode b_BP_append 10 = .ok (.aload_n 1, 1) := by decide +kernel
theorem d_BP_append_11 : decode b_BP_append 11 = .ok (.aastore, 1) := by decide +kernel
theorem d_BP_append_12 : decode b_BP_append 12 = .ok (.aload_n 0, 1) := by decide +kernel
theorem d_BP_append_13 : decode b_BP_append 13 = .ok (.dup, 1) := by decide +kernel
theorem d_BP_append_14 : decode b_BP_append 14 = .ok (.getfield 15, 3) := by decide +kernel
theorem d_BP_append_17 : decode b_BP_append 17 = .ok (.iconst 1, 1) := by decide +kernel
theorem d_BP_append_18 : decode b_BP_append 18 = .ok (.iadd, 1) := by decide +kernel
theorem d_BP_append_19 : decode b_BP_append 19 = .ok (.putfield 15, 3) := by decide +kernel
theorem d_BP_append_22 : decode b_BP_append 22 = .ok (.iload_n 2, 1) := by decide +kernel
theorem d_BP_append_23 : decode b_BP_append 23 = .ok (.ireturn, 1) := by decide +kernel
abbrev b_BP_boxNumbered : ByteArray := prog_1_method_17_code
def y_BP_boxNumbered : MethodName := ⟨"BoxPacker", "boxNumbered", "(I)LBoxPacker$Box;"⟩
theorem d_BP_boxNumbered_0 : decode b_BP_boxNumbered 0 = .ok (.iload_n 1, 1) := by decide +kernel
theorem d_BP_boxNumbered_1 : decode b_BP_boxNumbered 1 = .ok (.ifCond .lt 11, 3) := by decide +kernel
theorem d_BP_boxNumbered_4 : decode b_BP_boxNumbered 4 = .ok (.iload_n 1, 1) := by decide +kernel
theorem d_BP_boxNumbered_5 : decode b_BP_boxNumbered 5 = .ok (.aload_n 0, 1) := by decide +kernel
theorem d_BP_boxNumbered_6 : decode b_BP_boxNumbered 6 = .ok (.getfield 25, 3) := by decide +kernel
theorem d_BP_boxNumbered_9 : decode b_BP_boxNumbered 9 = .ok (.if_icmp .lt 13, 3) := by decide +kernel
theorem d_BP_boxNumbered_12 : decode b_BP_boxNumbered 12 = .ok (.new 139, 3) := by decide +kernel
theorem d_BP_boxNumbered_15 : decode b_BP_boxNumbered 15 = .ok (.dup, 1) := by decide +kernel
theorem d_BP_boxNumbered_16 : decode b_BP_boxNumbered 16 = .ok (.ldc 172, 2) := by decide +kernel
theorem d_BP_boxNumbered_18 : decode b_BP_boxNumbered 18 = .ok (.invokespecial 143, 3) := by decide +kernel
theorem d_BP_boxNumbered_21 : decode b_BP_boxNumbered 21 = .ok (.athrow, 1) := by decide +kernel
theorem d_BP_boxNumbered_22 : decode b_BP_boxNumbered 22 = .ok (.aload_n 0, 1) := by decide +kernel
theorem d_BP_boxNumbered_23 : decode b_BP_boxNumbered 23 = .ok (.getfield 21, 3) := by decide +kernel
theorem d_BP_boxNumbered_26 : decode b_BP_boxNumbered 26 = .ok (.iload_n 1, 1) := by decide +kernel
theorem d_BP_boxNumbered_27 : decode b_BP_boxNumbered 27 = .ok (.aaload, 1) := by decide +kernel
theorem d_BP_boxNumbered_28 : decode b_BP_boxNumbered 28 = .ok (.areturn, 1) := by decide +kernel
abbrev b_BP_layOut : ByteArray := prog_1_method_18_code
def y_BP_layOut : MethodName := ⟨"BoxPacker", "layOut", "(LBoxPacker$Box;JJ)Z"⟩
theorem d_BP_layOut_0 : decode b_BP_layOut 0 = .ok (.iconst 0, 1) := by decide +kernel
theorem d_BP_layOut_1 : decode b_BP_layOut 1 = .ok (.istore 6, 2) := by decide +kernel
theorem d_BP_layOut_3 : decode b_BP_layOut 3 = .ok (.iload 6, 2) := by decide +kernel
theorem d_BP_layOut_5 : decode b_BP_layOut 5 = .ok (.aload_n 1, 1) := by decide +kernel
theorem d_BP_layOut_6 : decode b_BP_layOut 6 = .ok (.getfield 133, 3) := by decide +kernel
theorem d_BP_layOut_9 : decode b_BP_layOut 9 = .ok (.arraylength, 1) := by decide +kernel
theorem d_BP_layOut_10 : decode b_BP_layOut 10 = .ok (.if_icmp .ge 55, 3) := by decide +kernel
theorem d_BP_layOut_13 : decode b_BP_layOut 13 = .ok (.aload_n 1, 1) := by decide +kernel
theorem d_BP_layOut_14 : decode b_BP_layOut 14 = .ok (.getfield 133, 3) := by decide +kernel
theorem d_BP_layOut_17 : decode b_BP_layOut 17 = .ok (.iload 6, 2) := by decide +kernel
theorem d_BP_layOut_19 : decode b_BP_layOut 19 = .ok (.aaload, 1) := by decide +kernel
theorem d_BP_layOut_20 : decode b_BP_layOut 20 = .ok (.astore 8, 2) := by decide +kernel
theorem d_BP_layOut_22 : decode b_BP_layOut 22 = .ok (.aload 8, 2) := by decide +kernel
theorem d_BP_layOut_24 : decode b_BP_layOut 24 = .ok (.instanceof 52, 3) := by decide +kernel
theorem d_BP_layOut_27 : decode b_BP_layOut 27 = .ok (.ifCond .eq 32, 3) := by decide +kernel
theorem d_BP_layOut_30 : decode b_BP_layOut 30 = .ok (.aload 8, 2) := by decide +kernel
theorem d_BP_layOut_32 : decode b_BP_layOut 32 = .ok (.checkcast 52, 3) := by decide +kernel
theorem d_BP_layOut_35 : decode b_BP_layOut 35 = .ok (.astore 7, 2) := by decide +kernel
theorem d_BP_layOut_37 : decode b_BP_layOut 37 = .ok (.aload_n 0, 1) := by decide +kernel
theorem d_BP_layOut_38 : decode b_BP_layOut 38 = .ok (.aload_n 1, 1) := by decide +kernel
theorem d_BP_layOut_39 : decode b_BP_layOut 39 = .ok (.aload 7, 2) := by decide +kernel
theorem d_BP_layOut_41 : decode b_BP_layOut 41 = .ok (.aload_n 1, 1) := by decide +kernel
theorem d_BP_layOut_42 : decode b_BP_layOut 42 = .ok (.getfield 144, 3) := by decide +kernel
theorem d_BP_layOut_45 : decode b_BP_layOut 45 = .ok (.iload 6, 2) := by decide +kernel
theorem d_BP_layOut_47 : decode b_BP_layOut 47 = .ok (.iaload, 1) := by decide +kernel
theorem d_BP_layOut_48 : decode b_BP_layOut 48 = .ok (.lload_n 2, 1) := by decide +kernel
theorem d_BP_layOut_49 : decode b_BP_layOut 49 = .ok (.lload 4, 2) := by decide +kernel
theorem d_BP_layOut_51 : decode b_BP_layOut 51 = .ok (.invokevirtual 174, 3) := by decide +kernel
theorem d_BP_layOut_54 : decode b_BP_layOut 54 = .ok (.ifCond .ne 5, 3) := by decide +kernel
theorem d_BP_layOut_57 : decode b_BP_layOut 57 = .ok (.iconst 0, 1) := by decide +kernel
theorem d_BP_layOut_58 : decode b_BP_layOut 58 = .ok (.ireturn, 1) := by decide +kernel
theorem d_BP_layOut_59 : decode b_BP_layOut 59 = .ok (.iinc 6 1, 3) := by decide +kernel
theorem d_BP_layOut_62 : decode b_BP_layOut 62 = .ok (.goto (-59), 3) := by decide +kernel
theorem d_BP_layOut_65 : decode b_BP_layOut 65 = .ok (.iconst 1, 1) := by decide +kernel
theorem d_BP_layOut_66 : decode b_BP_layOut 66 = .ok (.ireturn, 1) := by decide +kernel
abbrev b_BP_layOutItem : ByteArray := prog_1_method_19_code
def y_BP_layOutItem : MethodName := ⟨"BoxPacker", "layOutItem", "(LBoxPacker$Box;LBoxPacker$Solid;IJJ)Z"⟩
theorem d_BP_layOutItem_0 : decode b_BP_layOutItem 0 = .ok (.aload_n 1, 1) := by decide +kernel
theorem d_BP_layOutItem_1 : decode b_BP_layOutItem 1 = .ok (.getfield 178, 3) := by decide +kernel
theorem d_BP_layOutItem_4 : decode b_BP_layOutItem 4 = .ok (.ifCond .eq 14, 3) := by decide +kernel
theorem d_BP_layOutItem_7 : decode b_BP_layOutItem 7 = .ok (.lload 4, 2) := by decide +kernel
theorem d_BP_layOutItem_9 : decode b_BP_layOutItem 9 = .ok (.aload_n 2, 1) := by decide +kernel
theorem d_BP_layOutItem_10 : decode b_BP_layOutItem 10 = .ok (.getfield 182, 3) := by decide +kernel
theorem d_BP_layOutItem_13 : decode b_BP_layOutItem 13 = .ok (.i2l, 1) := by decide +kernel
theorem d_BP_layOutItem_14 : decode b_BP_layOutItem 14 = .ok (.ladd, 1) := by decide +kernel
theorem d_BP_layOutItem_15 : decode b_BP_layOutItem 15 = .ok (.goto 8, 3) := by decide +kernel
theorem d_BP_layOutItem_18 : decode b_BP_layOutItem 18 = .ok (.lload 4, 2) := by decide +kernel
theorem d_BP_layOutItem_20 : decode b_BP_layOutItem 20 = .ok (.iload_n 3, 1) := by decide +kernel
theorem d_BP_layOutItem_21 : decode b_BP_layOutItem 21 = .ok (.i2l, 1) := by decide +kernel
theorem d_BP_layOutItem_22 : decode b_BP_layOutItem 22 = .ok (.ladd, 1) := by decide +kernel
theorem d_BP_layOutItem_23 : decode b_BP_layOutItem 23 = .ok (.lstore 8, 2) := by decide +kernel
theorem d_BP_layOutItem_25 : decode b_BP_layOutItem 25 = .ok (.aload_n 1, 1) := by decide +kernel
theorem d_BP_layOutItem_26 : decode b_BP_layOutItem 26 = .ok (.getfield 178, 3) := by decide +kernel
theorem d_BP_layOutItem_29 : decode b_BP_layOutItem 29 = .ok (.ifCond .eq 26, 3) := by decide +kernel
theorem d_BP_layOutItem_32 : decode b_BP_layOutItem 32 = .ok (.lload 6, 2) := by decide +kernel
theorem d_BP_layOutItem_34 : decode b_BP_layOutItem 34 = .ok (.aload_n 1, 1) := by decide +kernel
theorem d_BP_layOutItem_35 : decode b_BP_layOutItem 35 = .ok (.getfield 90, 3) := by decide +kernel
theorem d_BP_layOutItem_38 : decode b_BP_layOutItem 38 = .ok (.i2l, 1) := by decide +kernel
theorem d_BP_layOutItem_39 : decode b_BP_layOutItem 39 = .ok (.lsub, 1) := by decide +kernel
theorem d_BP_layOutItem_40 : decode b_BP_layOutItem 40 = .ok (.iload_n 3, 1) := by decide +kernel
theorem d_BP_layOutItem_41 : decode b_BP_layOutItem 41 = .ok (.i2l, 1) := by decide +kernel
theorem d_BP_layOutItem_42 : decode b_BP_layOutItem 42 = .ok (.ladd, 1) := by decide +kernel
theorem d_BP_layOutItem_43 : decode b_BP_layOutItem 43 = .ok (.aload_n 2, 1) := by decide +kernel
theorem d_BP_layOutItem_44 : decode b_BP_layOutItem 44 = .ok (.getfield 185, 3) := by decide +kernel
theorem d_BP_layOutItem_47 : decode b_BP_layOutItem 47 = .ok (.invokestatic 186, 3) := by decide +kernel
theorem d_BP_layOutItem_50 : decode b_BP_layOutItem 50 = .ok (.i2l, 1) := by decide +kernel
theorem d_BP_layOutItem_51 : decode b_BP_layOutItem 51 = .ok (.ladd, 1) := by decide +kernel
theorem d_BP_layOutItem_52 : decode b_BP_layOutItem 52 = .ok (.goto 11, 3) := by decide +kernel
theorem d_BP_layOutItem_55 : decode b_BP_layOutItem 55 = .ok (.lload 6, 2) := by decide +kernel
theorem d_BP_layOutItem_57 : decode b_BP_layOutItem 57 = .ok (.aload_n 2, 1) := by decide +kernel
theorem d_BP_layOutItem_58 : decode b_BP_layOutItem 58 = .ok (.getfield 182, 3) := by decide +kernel
theorem d_BP_layOutItem_61 : decode b_BP_layOutItem 61 = .ok (.i2l, 1) := by decide +kernel
theorem d_BP_layOutItem_62 : decode b_BP_layOutItem 62 = .ok (.ladd, 1) := by decide +kernel
theorem d_BP_layOutItem_63 : decode b_BP_layOutItem 63 = .ok (.lstore 10, 2) := by decide +kernel
theorem d_BP_layOutItem_65 : decode b_BP_layOutItem 65 = .ok (.aload_n 2, 1) := by decide +kernel
theorem d_BP_layOutItem_66 : decode b_BP_layOutItem 66 = .ok (.getfield 190, 3) := by decide +kernel
theorem d_BP_layOutItem_69 : decode b_BP_layOutItem 69 = .ok (.ifnull 16, 3) := by decide +kernel
theorem d_BP_layOutItem_72 : decode b_BP_layOutItem 72 = .ok (.aload_n 0, 1) := by decide +kernel
theorem d_BP_layOutItem_73 : decode b_BP_layOutItem 73 = .ok (.aload_n 2, 1) := by decide +kernel
theorem d_BP_layOutItem_74 : decode b_BP_layOutItem 74 = .ok (.getfield 190, 3) := by decide +kernel
theorem d_BP_layOutItem_77 : decode b_BP_layOutItem 77 = .ok (.lload 8, 2) := by decide +kernel
theorem d_BP_layOutItem_79 : decode b_BP_layOutItem 79 = .ok (.lload 10, 2) := by decide +kernel
theorem d_BP_layOutItem_81 : decode b_BP_layOutItem 81 = .ok (.invokevirtual 155, 3) := by decide +kernel
theorem d_BP_layOutItem_84 : decode b_BP_layOutItem 84 = .ok (.ireturn, 1) := by decide +kernel
theorem d_BP_layOutItem_85 : decode b_BP_layOutItem 85 = .ok (.aload_n 2, 1) := by decide +kernel
theorem d_BP_layOutItem_86 : decode b_BP_layOutItem 86 = .ok (.getfield 194, 3) := by decide +kernel
theorem d_BP_layOutItem_89 : decode b_BP_layOutItem 89 = .ok (.aload_n 1, 1) := by decide +kernel
theorem d_BP_layOutItem_90 : decode b_BP_layOutItem 90 = .ok (.getfield 178, 3) := by decide +kernel
theorem d_BP_layOutItem_93 : decode b_BP_layOutItem 93 = .ok (.ifCond .eq 10, 3) := by decide +kernel
theorem d_BP_layOutItem_96 : decode b_BP_layOutItem 96 = .ok (.aload_n 1, 1) := by decide +kernel
theorem d_BP_layOutItem_97 : decode b_BP_layOutItem 97 = .ok (.getfield 87, 3) := by decide +kernel
theorem d_BP_layOutItem_100 : decode b_BP_layOutItem 100 = .ok (.goto 4, 3) := by decide +kernel
theorem d_BP_layOutItem_103 : decode b_BP_layOutItem 103 = .ok (.iconst 0, 1) := by decide +kernel
theorem d_BP_layOutItem_104 : decode b_BP_layOutItem 104 = .ok (.invokestatic 195, 3) := by decide +kernel
theorem d_BP_layOutItem_107 : decode b_BP_layOutItem 107 = .ok (.istore 12, 2) := by decide +kernel
theorem d_BP_layOutItem_109 : decode b_BP_layOutItem 109 = .ok (.aload_n 2, 1) := by decide +kernel
theorem d_BP_layOutItem_110 : decode b_BP_layOutItem 110 = .ok (.getfield 185, 3) := by decide +kernel
theorem d_BP_layOutItem_113 : decode b_BP_layOutItem 113 = .ok (.aload_n 1, 1) := by decide +kernel
theorem d_BP_layOutItem_114 : decode b_BP_layOutItem 114 = .ok (.getfield 178, 3) := by decide +kernel
theorem d_BP_layOutItem_117 : decode b_BP_layOutItem 117 = .ok (.ifCond .eq 7, 3) := by decide +kernel
theorem d_BP_layOutItem_120 : decode b_BP_layOutItem 120 = .ok (.iconst 0, 1) := by decide +kernel
theorem d_BP_layOutItem_121 : decode b_BP_layOutItem 121 = .ok (.goto 7, 3) := by decide +kernel
theorem d_BP_layOutItem_124 : decode b_BP_layOutItem 124 = .ok (.aload_n 1, 1) := by decide +kernel
theorem d_BP_layOutItem_125 : decode b_BP_layOutItem 125 = .ok (.getfield 90, 3) := by decide +kernel
theorem d_BP_layOutItem_128 : decode b_BP_layOutItem 128 = .ok (.invokestatic 195, 3) := by decide +kernel
theorem d_BP_layOutItem_131 : decode b_BP_layOutItem 131 = .ok (.istore 13, 2) := by decide +kernel
theorem d_BP_layOutItem_133 : decode b_BP_layOutItem 133 = .ok (.aload_n 2, 1) := by decide +kernel
theorem d_BP_layOutItem_134 : decode b_BP_layOutItem 134 = .ok (.getfield 198, 3) := by decide +kernel
theorem d_BP_layOutItem_137 : decode b_BP_layOutItem 137 = .ok (.aload_n 1, 1) := by decide +kernel
theorem d_BP_layOutItem_138 : decode b_BP_layOutItem 138 = .ok (.getfield 178, 3) := by decide +kernel
theorem d_BP_layOutItem_141 : decode b_BP_layOutItem 141 = .ok (.ifCond .eq 7, 3) := by decide +kernel
theorem d_BP_layOutItem_144 : decode b_BP_layOutItem 144 = .ok (.iconst 0, 1) := by decide +kernel
theorem d_BP_layOutItem_145 : decode b_BP_layOutItem 145 = .ok (.goto 7, 3) := by decide +kernel
theorem d_BP_layOutItem_148 : decode b_BP_layOutItem 148 = .ok (.aload_n 1, 1) := by decide +kernel
theorem d_BP_layOutItem_149 : decode b_BP_layOutItem 149 = .ok (.getfield 93, 3) := by decide +kernel
theorem d_BP_layOutItem_152 : decode b_BP_layOutItem 152 = .ok (.invokestatic 195, 3) := by decide +kernel
theorem d_BP_layOutItem_155 : decode b_BP_layOutItem 155 = .ok (.istore 14, 2) := by decide +kernel
theorem d_BP_layOutItem_157 : decode b_BP_layOutItem 157 = .ok (.aload_n 2, 1) := by decide +kernel
theorem d_BP_layOutItem_158 : decode b_BP_layOutItem 158 = .ok (.getfield 199, 3) := by decide +kernel
theorem d_BP_layOutItem_161 : decode b_BP_layOutItem 161 = .ok (.iconst (-1), 1) := by decide +kernel
theorem d_BP_layOutItem_162 : decode b_BP_layOutItem 162 = .ok (.if_icmp .eq 7, 3) := by decide +kernel
theorem d_BP_layOutItem_165 : decode b_BP_layOutItem 165 = .ok (.iconst 1, 1) := by decide +kernel
theorem d_BP_layOutItem_166 : decode b_BP_layOutItem 166 = .ok (.goto 4, 3) := by decide +kernel
theorem d_BP_layOutItem_169 : decode b_BP_layOutItem 169 = .ok (.iconst 0, 1) := by decide +kernel
theorem d_BP_layOutItem_170 : decode b_BP_layOutItem 170 = .ok (.istore 15, 2) := by decide +kernel
theorem d_BP_layOutItem_172 : decode b_BP_layOutItem 172 = .ok (.iload 15, 2) := by decide +kernel
theorem d_BP_layOutItem_174 : decode b_BP_layOutItem 174 = .ok (.ifCond .ne 16, 3) := by decide +kernel
theorem d_BP_layOutItem_177 : decode b_BP_layOutItem 177 = .ok (.iload 12, 2) := by decide +kernel
theorem d_BP_layOutItem_179 : decode b_BP_layOutItem 179 = .ok (.ifCond .le 33, 3) := by decide +kernel
theorem d_BP_layOutItem_182 : decode b_BP_layOutItem 182 = .ok (.iload 13, 2) := by decide +kernel
theorem d_BP_layOutItem_184 : decode b_BP_layOutItem 184 = .ok (.iload 14, 2) := by decide +kernel
theorem d_BP_layOutItem_186 : decode b_BP_layOutItem 186 = .ok (.iadd, 1) := by decide +kernel
theorem d_BP_layOutItem_187 : decode b_BP_layOutItem 187 = .ok (.ifCond .le 25, 3) := by decide +kernel
theorem d_BP_layOutItem_190 : decode b_BP_layOutItem 190 = .ok (.aload_n 0, 1) := by decide +kernel
theorem d_BP_layOutItem_191 : decode b_BP_layOutItem 191 = .ok (.getfield 31, 3) := by decide +kernel
theorem d_BP_layOutItem_194 : decode b_BP_layOutItem 194 = .ok (.aload_n 2, 1) := by decide +kernel
theorem d_BP_layOutItem_195 : decode b_BP_layOutItem 195 = .ok (.getfield 199, 3) := by decide +kernel
theorem d_BP_layOutItem_198 : decode b_BP_layOutItem 198 = .ok (.lload 8, 2) := by decide +kernel
theorem d_BP_layOutItem_200 : decode b_BP_layOutItem 200 = .ok (.lload 10, 2) := by decide +kernel
theorem d_BP_layOutItem_202 : decode b_BP_layOutItem 202 = .ok (.iload 12, 2) := by decide +kernel
theorem d_BP_layOutItem_204 : decode b_BP_layOutItem 204 = .ok (.iload 13, 2) := by decide +kernel
theorem d_BP_layOutItem_206 : decode b_BP_layOutItem 206 = .ok (.iload 14, 2) := by decide +kernel
theorem d_BP_layOutItem_208 : decode b_BP_layOutItem 208 = .ok (.invokevirtual 202, 3) := by decide +kernel
theorem d_BP_layOutItem_211 : decode b_BP_layOutItem 211 = .ok (.ireturn, 1) := by decide +kernel
theorem d_BP_layOutItem_212 : decode b_BP_layOutItem 212 = .ok (.iconst 1, 1) := by decide +kernel
theorem d_BP_layOutItem_213 : decode b_BP_layOutItem 213 = .ok (.ireturn, 1) := by decide +kernel
abbrev b_BP_isSize : ByteArray := prog_1_method_20_code
def y_BP_isSize : MethodName := ⟨"BoxPacker", "isSize", "(J)Z"⟩
theorem d_BP_isSize_0 : decode b_BP_isSize 0 = .ok (.lload_n 0, 1) := by decide +kernel
theorem d_BP_isSize_1 : decode b_BP_isSize 1 = .ok (.ldc2_w 206, 3) := by decide +kernel
theorem d_BP_isSize_4 : decode b_BP_isSize 4 = .ok (.lcmp, 1) := by decide +kernel
theorem d_BP_isSize_5 : decode b_BP_isSize 5 = .ok (.ifCond .lt 15, 3) := by decide +kernel
theorem d_BP_isSize_8 : decode b_BP_isSize 8 = .ok (.lload_n 0, 1) := by decide +kernel
theorem d_BP_isSize_9 : decode b_BP_isSize 9 = .ok (.ldc2_w 208, 3) := by decide +kernel
theorem d_BP_isSize_12 : decode b_BP_isSize 12 = .ok (.lcmp, 1) := by decide +kernel
theorem d_BP_isSize_13 : decode b_BP_isSize 13 = .ok (.ifCond .gt 7, 3) := by decide +kernel
theorem d_BP_isSize_16 : decode b_BP_isSize 16 = .ok (.iconst 1, 1) := by decide +kernel
theorem d_BP_isSize_17 : decode b_BP_isSize 17 = .ok (.goto 4, 3) := by decide +kernel
theorem d_BP_isSize_20 : decode b_BP_isSize 20 = .ok (.iconst 0, 1) := by decide +kernel
theorem d_BP_isSize_21 : decode b_BP_isSize 21 = .ok (.ireturn, 1) := by decide +kernel
abbrev b_BP_isSizeOrRunning : ByteArray := prog_1_method_21_code
def y_BP_isSizeOrRunning : MethodName := ⟨"BoxPacker", "isSizeOrRunning", "(I)Z"⟩
theorem d_BP_isSizeOrRunning_0 : decode b_BP_isSizeOrRunning 0 = .ok (.iload_n 0, 1) := by decide +kernel
theorem d_BP_isSizeOrRunning_1 : decode b_BP_isSizeOrRunning 1 = .ok (.ldc 210, 2) := by decide +kernel
theorem d_BP_isSizeOrRunning_3 : decode b_BP_isSizeOrRunning 3 = .ok (.if_icmp .eq 11, 3) := by decide +kernel
theorem d_BP_isSizeOrRunning_6 : decode b_BP_isSizeOrRunning 6 = .ok (.iload_n 0, 1) := by decide +kernel
theorem d_BP_isSizeOrRunning_7 : decode b_BP_isSizeOrRunning 7 = .ok (.i2l, 1) := by decide +kernel
theorem d_BP_isSizeOrRunning_8 : decode b_BP_isSizeOrRunning 8 = .ok (.invokestatic 43, 3) := by decide +kernel
theorem d_BP_isSizeOrRunning_11 : decode b_BP_isSizeOrRunning 11 = .ok (.ifCond .eq 7, 3) := by decide +kernel
theorem d_BP_isSizeOrRunning_14 : decode b_BP_isSizeOrRunning 14 = .ok (.iconst 1, 1) := by decide +kernel
theorem d_BP_isSizeOrRunning_15 : decode b_BP_isSizeOrRunning 15 = .ok (.goto 4, 3) := by decide +kernel
theorem d_BP_isSizeOrRunning_18 : decode b_BP_isSizeOrRunning 18 = .ok (.iconst 0, 1) := by decide +kernel
theorem d_BP_isSizeOrRunning_19 : decode b_BP_isSizeOrRunning 19 = .ok (.ireturn, 1) := by decide +kernel
abbrev b_BP_isOrder : ByteArray := prog_1_method_22_code
def y_BP_isOrder : MethodName := ⟨"BoxPacker", "isOrder", "(I)Z"⟩
theorem d_BP_isOrder_0 : decode b_BP_isOrder 0 = .ok (.iload_n 0, 1) := by decide +kernel
theorem d_BP_isOrder_1 : decode b_BP_isOrder 1 = .ok (.ifCond .lt 12, 3) := by decide +kernel
theorem d_BP_isOrder_4 : decode b_BP_isOrder 4 = .ok (.iload_n 0, 1) := by decide +kernel
theorem d_BP_isOrder_5 : decode b_BP_isOrder 5 = .ok (.iconst 4, 1) := by decide +kernel
theorem d_BP_isOrder_6 : decode b_BP_isOrder 6 = .ok (.if_icmp .ge 7, 3) := by decide +kernel
theorem d_BP_isOrder_9 : decode b_BP_isOrder 9 = .ok (.iconst 1, 1) := by decide +kernel
theorem d_BP_isOrder_10 : decode b_BP_isOrder 10 = .ok (.goto 4, 3) := by decide +kernel
theorem d_BP_isOrder_13 : decode b_BP_isOrder 13 = .ok (.iconst 0, 1) := by decide +kernel
theorem d_BP_isOrder_14 : decode b_BP_isOrder 14 = .ok (.ireturn, 1) := by decide +kernel
abbrev b_BP_known2 : ByteArray := prog_1_method_23_code
def y_BP_known2 : MethodName := ⟨"BoxPacker", "known", "(II)I"⟩
theorem d_BP_known2_0 : decode b_BP_known2 0 = .ok (.iload_n 0, 1) := by decide +kernel
theorem d_BP_known2_1 : decode b_BP_known2 1 = .ok (.ldc 210, 2) := by decide +kernel
theorem d_BP_known2_3 : decode b_BP_known2 3 = .ok (.if_icmp .ne 7, 3) := by decide +kernel
theorem d_BP_known2_6 : decode b_BP_known2 6 = .ok (.iload_n 1, 1) := by decide +kernel
theorem d_BP_known2_7 : decode b_BP_known2 7 = .ok (.goto 4, 3) := by decide +kernel
theorem d_BP_known2_10 : decode b_BP_known2 10 = .ok (.iload_n 0, 1) := by decide +kernel
theorem d_BP_known2_11 : decode b_BP_known2 11 = .ok (.ireturn, 1) := by decide +kernel
abbrev b_BP_known1 : ByteArray := prog_1_method_24_code
def y_BP_known1 : MethodName := ⟨"BoxPacker", "known", "(I)I"⟩
theorem d_BP_known1_0 : decode b_BP_known1 0 = .ok (.iload_n 0, 1) := by decide +kernel
theorem d_BP_known1_1 : decode b_BP_known1 1 = .ok (.iconst 0, 1) := by decide +kernel
theorem d_BP_known1_2 : decode b_BP_known1 2 = .ok (.invokestatic 195, 3) := by decide +kernel
theorem d_BP_known1_5 : decode b_BP_known1 5 = .ok (.ireturn, 1) := by decide +kernel
abbrev b_BP_sum : ByteArray := prog_1_method_25_code
def y_BP_sum : MethodName := ⟨"BoxPacker", "sum", "(JJ)I"⟩
theorem d_BP_sum_0 : decode b_BP_sum 0 = .ok (.lload_n 0, 1) := by decide +kernel
theorem d_BP_sum_1 : decode b_BP_sum 1 = .ok (.lload_n 2, 1) := by decide +kernel
theorem d_BP_sum_2 : decode b_BP_sum 2 = .ok (.ladd, 1) := by decide +kernel
theorem d_BP_sum_3 : decode b_BP_sum 3 = .ok (.lstore 4, 2) := by decide +kernel
theorem d_BP_sum_5 : decode b_BP_sum 5 = .ok (.lload 4, 2) := by decide +kernel
theorem d_BP_sum_7 : decode b_BP_sum 7 = .ok (.invokestatic 43, 3) := by decide +kernel
theorem d_BP_sum_10 : decode b_BP_sum 10 = .ok (.ifCond .ne 13, 3) := by decide +kernel
theorem d_BP_sum_13 : decode b_BP_sum 13 = .ok (.new 211, 3) := by decide +kernel
theorem d_BP_sum_16 : decode b_BP_sum 16 = .ok (.dup, 1) := by decide +kernel
theorem d_BP_sum_17 : decode b_BP_sum 17 = .ok (.ldc 213, 2) := by decide +kernel
theorem d_BP_sum_19 : decode b_BP_sum 19 = .ok (.invokespecial 215, 3) := by decide +kernel
theorem d_BP_sum_22 : decode b_BP_sum 22 = .ok (.athrow, 1) := by decide +kernel
theorem d_BP_sum_23 : decode b_BP_sum 23 = .ok (.lload 4, 2) := by decide +kernel
theorem d_BP_sum_25 : decode b_BP_sum 25 = .ok (.l2i, 1) := by decide +kernel
theorem d_BP_sum_26 : decode b_BP_sum 26 = .ok (.ireturn, 1) := by decide +kernel
abbrev b_BP_dividedToNearest : ByteArray := prog_1_method_26_code
def y_BP_dividedToNearest : MethodName := ⟨"BoxPacker", "dividedToNearest", "(JI)I"⟩
theorem d_BP_dividedToNearest_0 : decode b_BP_dividedToNearest 0 = .ok (.lload_n 0, 1) := by decide +kernel
theorem d_BP_dividedToNearest_1 : decode b_BP_dividedToNearest 1 = .ok (.lconst 0, 1) := by decide +kernel
theorem d_BP_dividedToNearest_2 : decode b_BP_dividedToNearest 2 = .ok (.lcmp, 1) := by decide +kernel
theorem d_BP_dividedToNearest_3 : decode b_BP_dividedToNearest 3 = .ok (.ifCond .ge 8, 3) := by decide +kernel
theorem d_BP_dividedToNearest_6 : decode b_BP_dividedToNearest 6 = .ok (.lload_n 0, 1) := by decide +kernel
theorem d_BP_dividedToNearest_7 : decode b_BP_dividedToNearest 7 = .ok (.lneg, 1) := by decide +kernel
theorem d_BP_dividedToNearest_8 : decode b_BP_dividedToNearest 8 = .ok (.goto 4, 3) := by decide +kernel
theorem d_BP_dividedToNearest_11 : decode b_BP_dividedToNearest 11 = .ok (.lload_n 0, 1) := by decide +kernel
theorem d_BP_dividedToNearest_12 : decode b_BP_dividedToNearest 12 = .ok (.lstore_n 3, 1) := by decide +kernel
theorem d_BP_dividedToNearest_13 : decode b_BP_dividedToNearest 13 = .ok (.ldc2_w 216, 3) := by decide +kernel
theorem d_BP_dividedToNearest_16 : decode b_BP_dividedToNearest 16 = .ok (.lload_n 3, 1) := by decide +kernel
theorem d_BP_dividedToNearest_17 : decode b_BP_dividedToNearest 17 = .ok (.lmul, 1) := by decide +kernel
theorem d_BP_dividedToNearest_18 : decode b_BP_dividedToNearest 18 = .ok (.iload_n 2, 1) := by decide +kernel
theorem d_BP_dividedToNearest_19 : decode b_BP_dividedToNearest 19 = .ok (.i2l, 1) := by decide +kernel
theorem d_BP_dividedToNearest_20 : decode b_BP_dividedToNearest 20 = .ok (.ladd, 1) := by decide +kernel
theorem d_BP_dividedToNearest_21 : decode b_BP_dividedToNearest 21 = .ok (.ldc2_w 216, 3) := by decide +kernel
theorem d_BP_dividedToNearest_24 : decode b_BP_dividedToNearest 24 = .ok (.iload_n 2, 1) := by decide +kernel
theorem d_BP_dividedToNearest_25 : decode b_BP_dividedToNearest 25 = .ok (.i2l, 1) := by decide +kernel
theorem d_BP_dividedToNearest_26 : decode b_BP_dividedToNearest 26 = .ok (.lmul, 1) := by decide +kernel
theorem d_BP_dividedToNearest_27 : decode b_BP_dividedToNearest 27 = .ok (.ldiv, 1) := by decide +kernel
theorem d_BP_dividedToNearest_28 : decode b_BP_dividedToNearest 28 = .ok (.lstore 5, 2) := by decide +kernel
theorem d_BP_dividedToNearest_30 : decode b_BP_dividedToNearest 30 = .ok (.lload_n 0, 1) := by decide +kernel
theorem d_BP_dividedToNearest_31 : decode b_BP_dividedToNearest 31 = .ok (.lconst 0, 1) := by decide +kernel
theorem d_BP_dividedToNearest_32 : decode b_BP_dividedToNearest 32 = .ok (.lcmp, 1) := by decide +kernel
theorem d_BP_dividedToNearest_33 : decode b_BP_dividedToNearest 33 = .ok (.ifCond .ge 9, 3) := by decide +kernel
theorem d_BP_dividedToNearest_36 : decode b_BP_dividedToNearest 36 = .ok (.lload 5, 2) := by decide +kernel
theorem d_BP_dividedToNearest_38 : decode b_BP_dividedToNearest 38 = .ok (.lneg, 1) := by decide +kernel
theorem d_BP_dividedToNearest_39 : decode b_BP_dividedToNearest 39 = .ok (.goto 5, 3) := by decide +kernel
theorem d_BP_dividedToNearest_42 : decode b_BP_dividedToNearest 42 = .ok (.lload 5, 2) := by decide +kernel
theorem d_BP_dividedToNearest_44 : decode b_BP_dividedToNearest 44 = .ok (.l2i, 1) := by decide +kernel
theorem d_BP_dividedToNearest_45 : decode b_BP_dividedToNearest 45 = .ok (.ireturn, 1) := by decide +kernel
end
section
abbrev b_Box_init : ByteArray := prog_2_method_1_code
def y_Box_init : MethodName := ⟨"BoxPacker$Box", "<init>", "(Z[LBoxPacker$Item;I)V"⟩
theorem d_Box_init_0 : decode b_Box_init 0 = .ok (.aload_n 0, 1) := by decide +kernel
theorem d_Box_init_1 : decode b_Box_init 1 = .ok (.invokespecial 3, 3) := by decide +kernel
theorem d_Box_init_4 : decode b_Box_init 4 = .ok (.aload_n 0, 1) := by decide +kernel
theorem d_Box_init_5 : decode b_Box_init 5 = .ok (.iconst 0, 1) := by decide +kernel
theorem d_Box_init_6 : decode b_Box_init 6 = .ok (.putfield 9, 3) := by decide +kernel
theorem d_Box_init_9 : decode b_Box_init 9 = .ok (.aload_n 0, 1) := by decide +kernel
theorem d_Box_init_10 : decode b_Box_init 10 = .ok (.iconst 0, 1) := by decide +kernel
theorem d_Box_init_11 : decode b_Box_init 11 = .ok (.putfield 15, 3) := by decide +kernel
theorem d_Box_init_14 : decode b_Box_init 14 = .ok (.aload_n 0, 1) := by decide +kernel
theorem d_Box_init_15 : decode b_Box_init 15 = .ok (.iconst 0, 1) := by decide +kernel
theorem d_Box_init_16 : decode b_Box_init 16 = .ok (.putfield 18, 3) := by decide +kernel
theorem d_Box_init_19 : decode b_Box_init 19 = .ok (.aload_n 0, 1) := by decide +kernel
theorem d_Box_init_20 : decode b_Box_init 20 = .ok (.iconst 0, 1) := by decide +kernel
theorem d_Box_init_21 : decode b_Box_init 21 = .ok (.putfield 21, 3) := by decide +kernel
theorem d_Box_init_24 : decode b_Box_init 24 = .ok (.aload_n 0, 1) := by decide +kernel
theorem d_Box_init_25 : decode b_Box_init 25 = .ok (.iconst 0, 1) := by decide +kernel
theorem d_Box_init_26 : decode b_Box_init 26 = .ok (.putfield 24, 3) := by decide +kernel
theorem d_Box_init_29 : decode b_Box_init 29 = .ok (.aload_n 0, 1) := by decide +kernel
theorem d_Box_init_30 : decode b_Box_init 30 = .ok (.iconst 0, 1) := by decide +kernel
theorem d_Box_init_31 : decode b_Box_init 31 = .ok (.putfield 27, 3) := by decide +kernel
theorem d_Box_init_34 : decode b_Box_init 34 = .ok (.aload_n 0, 1) := by decide +kernel
theorem d_Box_init_35 : decode b_Box_init 35 = .ok (.iconst 0, 1) := by decide +kernel
theorem d_Box_init_36 : decode b_Box_init 36 = .ok (.putfield 30, 3) := by decide +kernel
theorem d_Box_init_39 : decode b_Box_init 39 = .ok (.aload_n 0, 1) := by decide +kernel
theorem d_Box_init_40 : decode b_Box_init 40 = .ok (.iload_n 1, 1) := by decide +kernel
theorem d_Box_init_41 : decode b_Box_init 41 = .ok (.putfield 33, 3) := by decide +kernel
theorem d_Box_init_44 : decode b_Box_init 44 = .ok (.aload_n 0, 1) := by decide +kernel
theorem d_Box_init_45 : decode b_Box_init 45 = .ok (.iload_n 3, 1) := by decide +kernel
theorem d_Box_init_46 : decode b_Box_init 46 = .ok (.anewarray 37, 3) := by decide +kernel
theorem d_Box_init_49 : decode b_Box_init 49 = .ok (.putfield 39, 3) := by decide +kernel
theorem d_Box_init_52 : decode b_Box_init 52 = .ok (.aload_n 0, 1) := by decide +kernel
theorem d_Box_init_53 : decode b_Box_init 53 = .ok (.iload_n 3, 1) := by decide +kernel
theorem d_Box_init_54 : decode b_Box_init 54 = .ok (.newarray .int, 2) := by decide +kernel
theorem d_Box_init_56 : decode b_Box_init 56 = .ok (.putfield 43, 3) := by decide +kernel
theorem d_Box_init_59 : decode b_Box_init 59 = .ok (.iconst 1, 1) := by decide +kernel
theorem d_Box_init_60 : decode b_Box_init 60 = .ok (.istore 4, 2) := by decide +kernel
theorem d_Box_init_62 : decode b_Box_init 62 = .ok (.iload_n 3, 1) := by decide +kernel
theorem d_Box_init_63 : decode b_Box_init 63 = .ok (.istore 5, 2) := by decide +kernel
theorem d_Box_init_65 : decode b_Box_init 65 = .ok (.iconst 0, 1) := by decide +kernel
theorem d_Box_init_66 : decode b_Box_init 66 = .ok (.istore 6, 2) := by decide +kernel
theorem d_Box_init_68 : decode b_Box_init 68 = .ok (.iload 6, 2) := by decide +kernel
theorem d_Box_init_70 : decode b_Box_init 70 = .ok (.iload_n 3, 1) := by decide +kernel
theorem d_Box_init_71 : decode b_Box_init 71 = .ok (.if_icmp .ge 84, 3) := by decide +kernel
theorem d_Box_init_74 : decode b_Box_init 74 = .ok (.aload_n 0, 1) := by decide +kernel
theorem d_Box_init_75 : decode b_Box_init 75 = .ok (.getfield 39, 3) := by decide +kernel
theorem d_Box_init_78 : decode b_Box_init 78 = .ok (.iload 6, 2) := by decide +kernel
theorem d_Box_init_80 : decode b_Box_init 80 = .ok (.aload_n 2, 1) := by decide +kernel
theorem d_Box_init_81 : decode b_Box_init 81 = .ok (.iload 6, 2) := by decide +kernel
theorem d_Box_init_83 : decode b_Box_init 83 = .ok (.aaload, 1) := by decide +kernel
theorem d_Box_init_84 : decode b_Box_init 84 = .ok (.aastore, 1) := by decide +kernel
theorem d_Box_init_85 : decode b_Box_init 85 = .ok (.aload_n 2, 1) := by decide +kernel
theorem d_Box_init_86 : decode b_Box_init 86 = .ok (.iload 6, 2) := by decide +kernel
theorem d_Box_init_88 : decode b_Box_init 88 = .ok (.aaload, 1) := by decide +kernel
theorem d_Box_init_89 : decode b_Box_init 89 = .ok (.astore 8, 2) := by decide +kernel
theorem d_Box_init_91 : decode b_Box_init 91 = .ok (.aload 8, 2) := by decide +kernel
theorem d_Box_init_93 : decode b_Box_init 93 = .ok (.instanceof 47, 3) := by decide +kernel
theorem d_Box_init_96 : decode b_Box_init 96 = .ok (.ifCond .eq 53, 3) := by decide +kernel
theorem d_Box_init_99 : decode b_Box_init 99 = .ok (.aload 8, 2) := by decide +kernel
theorem d_Box_init_101 : decode b_Box_init 101 = .ok (.checkcast 47, 3) := by decide +kernel
theorem d_Box_init_104 : decode b_Box_init 104 = .ok (.astore 7, 2) := by decide +kernel
theorem d_Box_init_106 : decode b_Box_init 106 = .ok (.aload 7, 2) := by decide +kernel
theorem d_Box_init_108 : decode b_Box_init 108 = .ok (.getfield 49, 3) := by decide +kernel
theorem d_Box_init_111 : decode b_Box_init 111 = .ok (.ifnull 38, 3) := by decide +kernel
theorem d_Box_init_114 : decode b_Box_init 114 = .ok (.iload 4, 2) := by decide +kernel
theorem d_Box_init_116 : decode b_Box_init 116 = .ok (.aload 7, 2) := by decide +kernel
theorem d_Box_init_118 : decode b_Box_init 118 = .ok (.getfield 49, 3) := by decide +kernel
theorem d_Box_init_121 : decode b_Box_init 121 = .ok (.getfield 53, 3) := by decide +kernel
theorem d_Box_init_124 : decode b_Box_init 124 = .ok (.iconst 1, 1) := by decide +kernel
theorem d_Box_init_125 : decode b_Box_init 125 = .ok (.iadd, 1) := by decide +kernel
theorem d_Box_init_126 : decode b_Box_init 126 = .ok (.invokestatic 56, 3) := by decide +kernel
theorem d_Box_init_129 : decode b_Box_init 129 = .ok (.istore 4, 2) := by decide +kernel
theorem d_Box_init_131 : decode b_Box_init 131 = .ok (.ldc 62, 2) := by decide +kernel
theorem d_Box_init_133 : decode b_Box_init 133 = .ok (.iload 5, 2) := by decide +kernel
theorem d_Box_init_135 : decode b_Box_init 135 = .ok (.aload 7, 2) := by decide +kernel
theorem d_Box_init_137 : decode b_Box_init 137 = .ok (.getfield 49, 3) := by decide +kernel
theorem d_Box_init_140 : decode b_Box_init 140 = .ok (.getfield 63, 3) := by decide +kernel
theorem d_Box_init_143 : decode b_Box_init 143 = .ok (.iadd, 1) := by decide +kernel
theorem d_Box_init_144 : decode b_Box_init 144 = .ok (.invokestatic 66, 3) := by decide +kernel
theorem d_Box_init_147 : decode b_Box_init 147 = .ok (.istore 5, 2) := by decide +kernel
theorem d_Box_init_149 : decode b_Box_init 149 = .ok (.iinc 6 1, 3) := by decide +kernel
theorem d_Box_init_152 : decode b_Box_init 152 = .ok (.goto (-84), 3) := by decide +kernel
theorem d_Box_init_155 : decode b_Box_init 155 = .ok (.aload_n 0, 1) := by decide +kernel
theorem d_Box_init_156 : decode b_Box_init 156 = .ok (.iload 4, 2) := by decide +kernel
theorem d_Box_init_158 : decode b_Box_init 158 = .ok (.putfield 53, 3) := by decide +kernel
theorem d_Box_init_161 : decode b_Box_init 161 = .ok (.aload_n 0, 1) := by decide +kernel
theorem d_Box_init_162 : decode b_Box_init 162 = .ok (.iload 5, 2) := by decide +kernel
theorem d_Box_init_164 : decode b_Box_init 164 = .ok (.putfield 63, 3) := by decide +kernel
theorem d_Box_init_167 : decode b_Box_init 167 = .ok (.return_, 1) := by decide +kernel
abbrev b_Box_fit : ByteArray := prog_2_method_2_code
def y_Box_fit : MethodName := ⟨"BoxPacker$Box", "fit", "(III)V"⟩
theorem d_Box_fit_0 : decode b_Box_fit 0 = .ok (.aload_n 0, 1) := by decide +kernel
theorem d_Box_fit_1 : decode b_Box_fit 1 = .ok (.getfield 33, 3) := by decide +kernel
theorem d_Box_fit_4 : decode b_Box_fit 4 = .ok (.ifCond .eq 11, 3) := by decide +kernel
theorem d_Box_fit_7 : decode b_Box_fit 7 = .ok (.aload_n 0, 1) := by decide +kernel
theorem d_Box_fit_8 : decode b_Box_fit 8 = .ok (.iload_n 3, 1) := by decide +kernel
theorem d_Box_fit_9 : decode b_Box_fit 9 = .ok (.invokevirtual 69, 3) := by decide +kernel
theorem d_Box_fit_12 : decode b_Box_fit 12 = .ok (.goto 7, 3) := by decide +kernel
theorem d_Box_fit_15 : decode b_Box_fit 15 = .ok (.aload_n 0, 1) := by decide +kernel
theorem d_Box_fit_16 : decode b_Box_fit 16 = .ok (.invokevirtual 73, 3) := by decide +kernel
theorem d_Box_fit_19 : decode b_Box_fit 19 = .ok (.aload_n 0, 1) := by decide +kernel
theorem d_Box_fit_20 : decode b_Box_fit 20 = .ok (.iconst 0, 1) := by decide +kernel
theorem d_Box_fit_21 : decode b_Box_fit 21 = .ok (.invokevirtual 76, 3) := by decide +kernel
theorem d_Box_fit_24 : decode b_Box_fit 24 = .ok (.astore 4, 2) := by decide +kernel
theorem d_Box_fit_26 : decode b_Box_fit 26 = .ok (.aload_n 0, 1) := by decide +kernel
theorem d_Box_fit_27 : decode b_Box_fit 27 = .ok (.iconst 1, 1) := by decide +kernel
theorem d_Box_fit_28 : decode b_Box_fit 28 = .ok (.invokevirtual 76, 3) := by decide +kernel
theorem d_Box_fit_31 : decode b_Box_fit 31 = .ok (.astore 5, 2) := by decide +kernel
theorem d_Box_fit_33 : decode b_Box_fit 33 = .ok (.aload_n 0, 1) := by decide +kernel
theorem d_Box_fit_34 : decode b_Box_fit 34 = .ok (.iload_n 1, 1) := by decide +kernel
theorem d_Box_fit_35 : decode b_Box_fit 35 = .ok (.iload_n 2, 1) := by decide +kernel
theorem d_Box_fit_36 : decode b_Box_fit 36 = .ok (.invokevirtual 80, 3) := by decide +kernel
theorem d_Box_fit_39 : decode b_Box_fit 39 = .ok (.aload_n 0, 1) := by decide +kernel
theorem d_Box_fit_40 : decode b_Box_fit 40 = .ok (.getfield 21, 3) := by decide +kernel
theorem d_Box_fit_43 : decode b_Box_fit 43 = .ok (.ifCond .le 12, 3) := by decide +kernel
theorem d_Box_fit_46 : decode b_Box_fit 46 = .ok (.aload_n 0, 1) := by decide +kernel
theorem d_Box_fit_47 : decode b_Box_fit 47 = .ok (.aload 4, 2) := by decide +kernel
theorem d_Box_fit_49 : decode b_Box_fit 49 = .ok (.invokevirtual 84, 3) := by decide +kernel
theorem d_Box_fit_52 : decode b_Box_fit 52 = .ok (.goto 16, 3) := by decide +kernel
theorem d_Box_fit_55 : decode b_Box_fit 55 = .ok (.aload_n 0, 1) := by decide +kernel
theorem d_Box_fit_56 : decode b_Box_fit 56 = .ok (.getfield 21, 3) := by decide +kernel
theorem d_Box_fit_59 : decode b_Box_fit 59 = .ok (.ifCond .ge 9, 3) := by decide +kernel
theorem d_Box_fit_62 : decode b_Box_fit 62 = .ok (.aload_n 0, 1) := by decide +kernel
theorem d_Box_fit_63 : decode b_Box_fit 63 = .ok (.aload 5, 2) := by decide +kernel
theorem d_Box_fit_65 : decode b_Box_fit 65 = .ok (.invokevirtual 84, 3) := by decide +kernel
theorem d_Box_fit_68 : decode b_Box_fit 68 = .ok (.aload_n 0, 1) := by decide +kernel
theorem d_Box_fit_69 : decode b_Box_fit 69 = .ok (.getfield 21, 3) := by decide +kernel
theorem d_Box_fit_72 : decode b_Box_fit 72 = .ok (.ifCond .ge 36, 3) := by decide +kernel
theorem d_Box_fit_75 : decode b_Box_fit 75 = .ok (.aload_n 0, 1) := by decide +kernel
theorem d_Box_fit_76 : decode b_Box_fit 76 = .ok (.getfield 24, 3) := by decide +kernel
theorem d_Box_fit_79 : decode b_Box_fit 79 = .ok (.ifCond .ne 29, 3) := by decide +kernel
theorem d_Box_fit_82 : decode b_Box_fit 82 = .ok (.aload_n 0, 1) := by decide +kernel
theorem d_Box_fit_83 : decode b_Box_fit 83 = .ok (.getfield 27, 3) := by decide +kernel
theorem d_Box_fit_86 : decode b_Box_fit 86 = .ok (.aload_n 0, 1) := by decide +kernel
theorem d_Box_fit_87 : decode b_Box_fit 87 = .ok (.getfield 21, 3) := by decide +kernel
theorem d_Box_fit_90 : decode b_Box_fit 90 = .ok (.ineg, 1) := by decide +kernel
theorem d_Box_fit_91 : decode b_Box_fit 91 = .ok (.if_icmp .ge 17, 3) := by decide +kernel
theorem d_Box_fit_94 : decode b_Box_fit 94 = .ok (.aload_n 0, 1) := by decide +kernel
theorem d_Box_fit_95 : decode b_Box_fit 95 = .ok (.aload_n 0, 1) := by decide +kernel
theorem d_Box_fit_96 : decode b_Box_fit 96 = .ok (.getfield 21, 3) := by decide +kernel
theorem d_Box_fit_99 : decode b_Box_fit 99 = .ok (.ineg, 1) := by decide +kernel
theorem d_Box_fit_100 : decode b_Box_fit 100 = .ok (.aload_n 0, 1) := by decide +kernel
theorem d_Box_fit_101 : decode b_Box_fit 101 = .ok (.getfield 27, 3) := by decide +kernel
theorem d_Box_fit_104 : decode b_Box_fit 104 = .ok (.isub, 1) := by decide +kernel
theorem d_Box_fit_105 : decode b_Box_fit 105 = .ok (.putfield 30, 3) := by decide +kernel
theorem d_Box_fit_108 : decode b_Box_fit 108 = .ok (.aload_n 0, 1) := by decide +kernel
theorem d_Box_fit_109 : decode b_Box_fit 109 = .ok (.invokevirtual 88, 3) := by decide +kernel
theorem d_Box_fit_112 : decode b_Box_fit 112 = .ok (.return_, 1) := by decide +kernel
abbrev b_Box_measureAlong : ByteArray := prog_2_method_3_code
def y_Box_measureAlong : MethodName := ⟨"BoxPacker$Box", "measureAlong", "()V"⟩
theorem d_Box_measureAlong_0 : decode b_Box_measureAlong 0 = .ok (.iconst 0, 1) := by decide +kernel
theorem d_Box_measureAlong_1 : decode b_Box_measureAlong 1 = .ok (.istore_n 1, 1) := by decide +kernel
theorem d_Box_measureAlong_2 : decode b_Box_measureAlong 2 = .ok (.iload_n 1, 1) := by decide +kernel
theorem d_Box_measureAlong_3 : decode b_Box_measureAlong 3 = .ok (.aload_n 0, 1) := by decide +kernel
theorem d_Box_measureAlong_4 : decode b_Box_measureAlong 4 = .ok (.getfield 39, 3) := by decide +kernel
theorem d_Box_measureAlong_7 : decode b_Box_measureAlong 7 = .ok (.arraylength, 1) := by decide +kernel
theorem d_Box_measureAlong_8 : decode b_Box_measureAlong 8 = .ok (.if_icmp .ge 158, 3) := by decide +kernel
theorem d_Box_measureAlong_11 : decode b_Box_measureAlong 11 = .ok (.aload_n 0, 1) := by decide +kernel
theorem d_Box_measureAlong_12 : decode b_Box_measureAlong 12 = .ok (.getfield 43, 3) := by decide +kernel
theorem d_Box_measureAlong_15 : decode b_Box_measureAlong 15 = .ok (.iload_n 1, 1) := by decide +kernel
theorem d_Box_measureAlong_16 : decode b_Box_measureAlong 16 = .ok (.aload_n 0, 1) := by decide +kernel
theorem d_Box_measureAlong_17 : decode b_Box_measureAlong 17 = .ok (.getfield 9, 3) := by decide +kernel
theorem d_Box_measureAlong_20 : decode b_Box_measureAlong 20 = .ok (.iastore, 1) := by decide +kernel
theorem d_Box_measureAlong_21 : decode b_Box_measureAlong 21 = .ok (.aload_n 0, 1) := by decide +kernel
theorem d_Box_measureAlong_22 : decode b_Box_measureAlong 22 = .ok (.getfield 39, 3) := by decide +kernel
theorem d_Box_measureAlong_25 : decode b_Box_measureAlong 25 = .ok (.iload_n 1, 1) := by decide +kernel
theorem d_Box_measureAlong_26 : decode b_Box_measureAlong 26 = .ok (.aaload, 1) := by decide +kernel
theorem d_Box_measureAlong_27 : decode b_Box_measureAlong 27 = .ok (.astore 4, 2) := by decide +kernel
theorem d_Box_measureAlong_29 : decode b_Box_measureAlong 29 = .ok (.aload 4, 2) := by decide +kernel
theorem d_Box_measureAlong_31 : decode b_Box_measureAlong 31 = .ok (.instanceof 47, 3) := by decide +kernel
theorem d_Box_measureAlong_34 : decode b_Box_measureAlong 34 = .ok (.ifCond .eq 87, 3) := by decide +kernel
theorem d_Box_measureAlong_37 : decode b_Box_measureAlong 37 = .ok (.aload 4, 2) := by decide +kernel
theorem d_Box_measureAlong_39 : decode b_Box_measureAlong 39 = .ok (.checkcast 47, 3) := by decide +kernel
theorem d_Box_measureAlong_42 : decode b_Box_measureAlong 42 = .ok (.astore_n 2, 1) := by decide +kernel
theorem d_Box_measureAlong_43 : decode b_Box_measureAlong 43 = .ok (.aload_n 0, 1) := by decide +kernel
theorem d_Box_measureAlong_44 : decode b_Box_measureAlong 44 = .ok (.aload_n 0, 1) := by decide +kernel
theorem d_Box_measureAlong_45 : decode b_Box_measureAlong 45 = .ok (.getfield 9, 3) := by decide +kernel
theorem d_Box_measureAlong_48 : decode b_Box_measureAlong 48 = .ok (.i2l, 1) := by decide +kernel
theorem d_Box_measureAlong_49 : decode b_Box_measureAlong 49 = .ok (.aload_n 2, 1) := by decide +kernel
theorem d_Box_measureAlong_50 : decode b_Box_measureAlong 50 = .ok (.getfield 91, 3) := by decide +kernel
theorem d_Box_measureAlong_53 : decode b_Box_measureAlong 53 = .ok (.invokestatic 92, 3) := by decide +kernel
theorem d_Box_measureAlong_56 : decode b_Box_measureAlong 56 = .ok (.i2l, 1) := by decide +kernel
theorem d_Box_measureAlong_57 : decode b_Box_measureAlong 57 = .ok (.invokestatic 96, 3) := by decide +kernel
theorem d_Box_measureAlong_60 : decode b_Box_measureAlong 60 = .ok (.putfield 9, 3) := by decide +kernel
theorem d_Box_measureAlong_63 : decode b_Box_measureAlong 63 = .ok (.aload_n 0, 1) := by decide +kernel
theorem d_Box_measureAlong_64 : decode b_Box_measureAlong 64 = .ok (.aload_n 0, 1) := by decide +kernel
theorem d_Box_measureAlong_65 : decode b_Box_measureAlong 65 = .ok (.getfield 15, 3) := by decide +kernel
theorem d_Box_measureAlong_68 : decode b_Box_measureAlong 68 = .ok (.aload_n 2, 1) := by decide +kernel
theorem d_Box_measureAlong_69 : decode b_Box_measureAlong 69 = .ok (.getfield 100, 3) := by decide +kernel
theorem d_Box_measureAlong_72 : decode b_Box_measureAlong 72 = .ok (.invokestatic 92, 3) := by decide +kernel
theorem d_Box_measureAlong_75 : decode b_Box_measureAlong 75 = .ok (.i2l, 1) := by decide +kernel
theorem d_Box_measureAlong_76 : decode b_Box_measureAlong 76 = .ok (.aload_n 2, 1) := by decide +kernel
theorem d_Box_measureAlong_77 : decode b_Box_measureAlong 77 = .ok (.getfield 101, 3) := by decide +kernel
theorem d_Box_measureAlong_80 : decode b_Box_measureAlong 80 = .ok (.ineg, 1) := by decide +kernel
theorem d_Box_measureAlong_81 : decode b_Box_measureAlong 81 = .ok (.i2l, 1) := by decide +kernel
theorem d_Box_measureAlong_82 : decode b_Box_measureAlong 82 = .ok (.invokestatic 96, 3) := by decide +kernel
theorem d_Box_measureAlong_85 : decode b_Box_measureAlong 85 = .ok (.invokestatic 56, 3) := by decide +kernel
theorem d_Box_measureAlong_88 : decode b_Box_measureAlong 88 = .ok (.putfield 15, 3) := by decide +kernel
theorem d_Box_measureAlong_91 : decode b_Box_measureAlong 91 = .ok (.aload_n 0, 1) := by decide +kernel
theorem d_Box_measureAlong_92 : decode b_Box_measureAlong 92 = .ok (.aload_n 0, 1) := by decide +kernel
theorem d_Box_measureAlong_93 : decode b_Box_measureAlong 93 = .ok (.getfield 18, 3) := by decide +kernel
theorem d_Box_measureAlong_96 : decode b_Box_measureAlong 96 = .ok (.aload_n 2, 1) := by decide +kernel
theorem d_Box_measureAlong_97 : decode b_Box_measureAlong 97 = .ok (.getfield 104, 3) := by decide +kernel
theorem d_Box_measureAlong_100 : decode b_Box_measureAlong 100 = .ok (.invokestatic 92, 3) := by decide +kernel
theorem d_Box_measureAlong_103 : decode b_Box_measureAlong 103 = .ok (.i2l, 1) := by decide +kernel
theorem d_Box_measureAlong_104 : decode b_Box_measureAlong 104 = .ok (.aload_n 2, 1) := by decide +kernel
theorem d_Box_measureAlong_105 : decode b_Box_measureAlong 105 = .ok (.getfield 101, 3) := by decide +kernel
theorem d_Box_measureAlong_108 : decode b_Box_measureAlong 108 = .ok (.i2l, 1) := by decide +kernel
theorem d_Box_measureAlong_109 : decode b_Box_measureAlong 109 = .ok (.invokestatic 96, 3) := by decide +kernel
theorem d_Box_measureAlong_112 : decode b_Box_measureAlong 112 = .ok (.invokestatic 56, 3) := by decide +kernel
theorem d_Box_measureAlong_115 : decode b_Box_measureAlong 115 = .ok (.putfield 18, 3) := by decide +kernel
theorem d_Box_measureAlong_118 : decode b_Box_measureAlong 118 = .ok (.goto 42, 3) := by decide +kernel
theorem d_Box_measureAlong_121 : decode b_Box_measureAlong 121 = .ok (.aload_n 0, 1) := by decide +kernel
theorem d_Box_measureAlong_122 : decode b_Box_measureAlong 122 = .ok (.getfield 39, 3) := by decide +kernel
theorem d_Box_measureAlong_125 : decode b_Box_measureAlong 125 = .ok (.iload_n 1, 1) := by decide +kernel
theorem d_Box_measureAlong_126 : decode b_Box_measureAlong 126 = .ok (.aaload, 1) := by decide +kernel
theorem d_Box_measureAlong_127 : decode b_Box_measureAlong 127 = .ok (.astore 4, 2) := by decide +kernel
theorem d_Box_measureAlong_129 : decode b_Box_measureAlong 129 = .ok (.aload 4, 2) := by decide +kernel
theorem d_Box_measureAlong_131 : decode b_Box_measureAlong 131 = .ok (.instanceof 105, 3) := by decide +kernel
theorem d_Box_measureAlong_134 : decode b_Box_measureAlong 134 = .ok (.ifCond .eq 26, 3) := by decide +kernel
theorem d_Box_measureAlong_137 : decode b_Box_measureAlong 137 = .ok (.aload 4, 2) := by decide +kernel
theorem d_Box_measureAlong_139 : decode b_Box_measureAlong 139 = .ok (.checkcast 105, 3) := by decide +kernel
theorem d_Box_measureAlong_142 : decode b_Box_measureAlong 142 = .ok (.astore_n 3, 1) := by decide +kernel
theorem d_Box_measureAlong_143 : decode b_Box_measureAlong 143 = .ok (.aload_n 0, 1) := by decide +kernel
theorem d_Box_measureAlong_144 : decode b_Box_measureAlong 144 = .ok (.aload_n 0, 1) := by decide +kernel
theorem d_Box_measureAlong_145 : decode b_Box_measureAlong 145 = .ok (.getfield 9, 3) := by decide +kernel
theorem d_Box_measureAlong_148 : decode b_Box_measureAlong 148 = .ok (.i2l, 1) := by decide +kernel
theorem d_Box_measureAlong_149 : decode b_Box_measureAlong 149 = .ok (.aload_n 3, 1) := by decide +kernel
theorem d_Box_measureAlong_150 : decode b_Box_measureAlong 150 = .ok (.getfield 107, 3) := by decide +kernel
theorem d_Box_measureAlong_153 : decode b_Box_measureAlong 153 = .ok (.i2l, 1) := by decide +kernel
theorem d_Box_measureAlong_154 : decode b_Box_measureAlong 154 = .ok (.invokestatic 96, 3) := by decide +kernel
theorem d_Box_measureAlong_157 : decode b_Box_measureAlong 157 = .ok (.putfield 9, 3) := by decide +kernel
theorem d_Box_measureAlong_160 : decode b_Box_measureAlong 160 = .ok (.iinc 1 1, 3) := by decide +kernel
theorem d_Box_measureAlong_163 : decode b_Box_measureAlong 163 = .ok (.goto (-161), 3) := by decide +kernel
theorem d_Box_measureAlong_166 : decode b_Box_measureAlong 166 = .ok (.return_, 1) := by decide +kernel
abbrev b_Box_measureBelow : ByteArray := prog_2_method_4_code
def y_Box_measureBelow : MethodName := ⟨"BoxPacker$Box", "measureBelow", "(I)V"⟩
theorem d_Box_measureBelow_0 : decode b_Box_measureBelow 0 = .ok (.iconst 0, 1) := by decide +kernel
theorem d_Box_measureBelow_1 : decode b_Box_measureBelow 1 = .ok (.istore_n 2, 1) := by decide +kernel
theorem d_Box_measureBelow_2 : decode b_Box_measureBelow 2 = .ok (.iload_n 2, 1) := by decide +kernel
theorem d_Box_measureBelow_3 : decode b_Box_measureBelow 3 = .ok (.aload_n 0, 1) := by decide +kernel
theorem d_Box_measureBelow_4 : decode b_Box_measureBelow 4 = .ok (.getfield 39, 3) := by decide +kernel
theorem d_Box_measureBelow_7 : decode b_Box_measureBelow 7 = .ok (.arraylength, 1) := by decide +kernel
theorem d_Box_measureBelow_8 : decode b_Box_measureBelow 8 = .ok (.if_icmp .ge 184, 3) := by decide +kernel
theorem d_Box_measureBelow_11 : decode b_Box_measureBelow 11 = .ok (.aload_n 0, 1) := by decide +kernel
theorem d_Box_measureBelow_12 : decode b_Box_measureBelow 12 = .ok (.getfield 39, 3) := by decide +kernel
theorem d_Box_measureBelow_15 : decode b_Box_measureBelow 15 = .ok (.iload_n 2, 1) := by decide +kernel
theorem d_Box_measureBelow_16 : decode b_Box_measureBelow 16 = .ok (.aaload, 1) := by decide +kernel
theorem d_Box_measureBelow_17 : decode b_Box_measureBelow 17 = .ok (.astore 5, 2) := by decide +kernel
theorem d_Box_measureBelow_19 : decode b_Box_measureBelow 19 = .ok (.aload 5, 2) := by decide +kernel
theorem d_Box_measureBelow_21 : decode b_Box_measureBelow 21 = .ok (.instanceof 47, 3) := by decide +kernel
theorem d_Box_measureBelow_24 : decode b_Box_measureBelow 24 = .ok (.ifCond .eq 97, 3) := by decide +kernel
theorem d_Box_measureBelow_27 : decode b_Box_measureBelow 27 = .ok (.aload 5, 2) := by decide +kernel
theorem d_Box_measureBelow_29 : decode b_Box_measureBelow 29 = .ok (.checkcast 47, 3) := by decide +kernel
theorem d_Box_measureBelow_32 : decode b_Box_measureBelow 32 = .ok (.astore_n 3, 1) := by decide +kernel
theorem d_Box_measureBelow_33 : decode b_Box_measureBelow 33 = .ok (.aload_n 0, 1) := by decide +kernel
theorem d_Box_measureBelow_34 : decode b_Box_measureBelow 34 = .ok (.aload_n 0, 1) := by decide +kernel
theorem d_Box_measureBelow_35 : decode b_Box_measureBelow 35 = .ok (.getfield 15, 3) := by decide +kernel
theorem d_Box_measureBelow_38 : decode b_Box_measureBelow 38 = .ok (.i2l, 1) := by decide +kernel
theorem d_Box_measureBelow_39 : decode b_Box_measureBelow 39 = .ok (.aload_n 0, 1) := by decide +kernel
theorem d_Box_measureBelow_40 : decode b_Box_measureBelow 40 = .ok (.getfield 18, 3) := by decide +kernel
theorem d_Box_measureBelow_43 : decode b_Box_measureBelow 43 = .ok (.i2l, 1) := by decide +kernel
theorem d_Box_measureBelow_44 : decode b_Box_measureBelow 44 = .ok (.invokestatic 96, 3) := by decide +kernel
theorem d_Box_measureBelow_47 : decode b_Box_measureBelow 47 = .ok (.putfield 15, 3) := by decide +kernel
theorem d_Box_measureBelow_50 : decode b_Box_measureBelow 50 = .ok (.aload_n 0, 1) := by decide +kernel
theorem d_Box_measureBelow_51 : decode b_Box_measureBelow 51 = .ok (.getfield 43, 3) := by decide +kernel
theorem d_Box_measureBelow_54 : decode b_Box_measureBelow 54 = .ok (.iload_n 2, 1) := by decide +kernel
theorem d_Box_measureBelow_55 : decode b_Box_measureBelow 55 = .ok (.aload_n 0, 1) := by decide +kernel
theorem d_Box_measureBelow_56 : decode b_Box_measureBelow 56 = .ok (.getfield 15, 3) := by decide +kernel
theorem d_Box_measureBelow_59 : decode b_Box_measureBelow 59 = .ok (.iastore, 1) := by decide +kernel
theorem d_Box_measureBelow_60 : decode b_Box_measureBelow 60 = .ok (.aload_n 0, 1) := by decide +kernel
theorem d_Box_measureBelow_61 : decode b_Box_measureBelow 61 = .ok (.aload_n 0, 1) := by decide +kernel
theorem d_Box_measureBelow_62 : decode b_Box_measureBelow 62 = .ok (.getfield 15, 3) := by decide +kernel
theorem d_Box_measureBelow_65 : decode b_Box_measureBelow 65 = .ok (.i2l, 1) := by decide +kernel
theorem d_Box_measureBelow_66 : decode b_Box_measureBelow 66 = .ok (.aload_n 3, 1) := by decide +kernel
theorem d_Box_measureBelow_67 : decode b_Box_measureBelow 67 = .ok (.getfield 100, 3) := by decide +kernel
theorem d_Box_measureBelow_70 : decode b_Box_measureBelow 70 = .ok (.invokestatic 92, 3) := by decide +kernel
theorem d_Box_measureBelow_73 : decode b_Box_measureBelow 73 = .ok (.i2l, 1) := by decide +kernel
theorem d_Box_measureBelow_74 : decode b_Box_measureBelow 74 = .ok (.invokestatic 96, 3) := by decide +kernel
theorem d_Box_measureBelow_77 : decode b_Box_measureBelow 77 = .ok (.putfield 15, 3) := by decide +kernel
theorem d_Box_measureBelow_80 : decode b_Box_measureBelow 80 = .ok (.aload_n 0, 1) := by decide +kernel
theorem d_Box_measureBelow_81 : decode b_Box_measureBelow 81 = .ok (.aload_n 3, 1) := by decide +kernel
theorem d_Box_measureBelow_82 : decode b_Box_measureBelow 82 = .ok (.getfield 104, 3) := by decide +kernel
theorem d_Box_measureBelow_85 : decode b_Box_measureBelow 85 = .ok (.invokestatic 92, 3) := by decide +kernel
theorem d_Box_measureBelow_88 : decode b_Box_measureBelow 88 = .ok (.putfield 18, 3) := by decide +kernel
theorem d_Box_measureBelow_91 : decode b_Box_measureBelow 91 = .ok (.aload_n 0, 1) := by decide +kernel
theorem d_Box_measureBelow_92 : decode b_Box_measureBelow 92 = .ok (.aload_n 0, 1) := by decide +kernel
theorem d_Box_measureBelow_93 : decode b_Box_measureBelow 93 = .ok (.getfield 9, 3) := by decide +kernel
theorem d_Box_measureBelow_96 : decode b_Box_measureBelow 96 = .ok (.aload_n 3, 1) := by decide +kernel
theorem d_Box_measureBelow_97 : decode b_Box_measureBelow 97 = .ok (.getfield 91, 3) := by decide +kernel
theorem d_Box_measureBelow_100 : decode b_Box_measureBelow 100 = .ok (.invokestatic 92, 3) := by decide +kernel
theorem d_Box_measureBelow_103 : decode b_Box_measureBelow 103 = .ok (.i2l, 1) := by decide +kernel
theorem d_Box_measureBelow_104 : decode b_Box_measureBelow 104 = .ok (.aload_n 3, 1) := by decide +kernel
theorem d_Box_measureBelow_105 : decode b_Box_measureBelow 105 = .ok (.getfield 101, 3) := by decide +kernel
theorem d_Box_measureBelow_108 : decode b_Box_measureBelow 108 = .ok (.i2l, 1) := by decide +kernel
theorem d_Box_measureBelow_109 : decode b_Box_measureBelow 109 = .ok (.invokestatic 96, 3) := by decide +kernel
theorem d_Box_measureBelow_112 : decode b_Box_measureBelow 112 = .ok (.invokestatic 56, 3) := by decide +kernel
theorem d_Box_measureBelow_115 : decode b_Box_measureBelow 115 = .ok (.putfield 9, 3) := by decide +kernel
theorem d_Box_measureBelow_118 : decode b_Box_measureBelow 118 = .ok (.goto 68, 3) := by decide +kernel
theorem d_Box_measureBelow_121 : decode b_Box_measureBelow 121 = .ok (.aload_n 0, 1) := by decide +kernel
theorem d_Box_measureBelow_122 : decode b_Box_measureBelow 122 = .ok (.getfield 39, 3) := by decide +kernel
theorem d_Box_measureBelow_125 : decode b_Box_measureBelow 125 = .ok (.iload_n 2, 1) := by decide +kernel
theorem d_Box_measureBelow_126 : decode b_Box_measureBelow 126 = .ok (.aaload, 1) := by decide +kernel
theorem d_Box_measureBelow_127 : decode b_Box_measureBelow 127 = .ok (.astore 5, 2) := by decide +kernel
theorem d_Box_measureBelow_129 : decode b_Box_measureBelow 129 = .ok (.aload 5, 2) := by decide +kernel
theorem d_Box_measureBelow_131 : decode b_Box_measureBelow 131 = .ok (.instanceof 105, 3) := by decide +kernel
theorem d_Box_measureBelow_134 : decode b_Box_measureBelow 134 = .ok (.ifCond .eq 52, 3) := by decide +kernel
theorem d_Box_measureBelow_137 : decode b_Box_measureBelow 137 = .ok (.aload 5, 2) := by decide +kernel
theorem d_Box_measureBelow_139 : decode b_Box_measureBelow 139 = .ok (.checkcast 105, 3) := by decide +kernel
theorem d_Box_measureBelow_142 : decode b_Box_measureBelow 142 = .ok (.astore 4, 2) := by decide +kernel
theorem d_Box_measureBelow_144 : decode b_Box_measureBelow 144 = .ok (.aload_n 0, 1) := by decide +kernel
theorem d_Box_measureBelow_145 : decode b_Box_measureBelow 145 = .ok (.getfield 43, 3) := by decide +kernel
theorem d_Box_measureBelow_148 : decode b_Box_measureBelow 148 = .ok (.iload_n 2, 1) := by decide +kernel
theorem d_Box_measureBelow_149 : decode b_Box_measureBelow 149 = .ok (.aload_n 0, 1) := by decide +kernel
theorem d_Box_measureBelow_150 : decode b_Box_measureBelow 150 = .ok (.getfield 15, 3) := by decide +kernel
theorem d_Box_measureBelow_153 : decode b_Box_measureBelow 153 = .ok (.iastore, 1) := by decide +kernel
theorem d_Box_measureBelow_154 : decode b_Box_measureBelow 154 = .ok (.aload_n 0, 1) := by decide +kernel
theorem d_Box_measureBelow_155 : decode b_Box_measureBelow 155 = .ok (.aload_n 0, 1) := by decide +kernel
theorem d_Box_measureBelow_156 : decode b_Box_measureBelow 156 = .ok (.getfield 15, 3) := by decide +kernel
theorem d_Box_measureBelow_159 : decode b_Box_measureBelow 159 = .ok (.i2l, 1) := by decide +kernel
theorem d_Box_measureBelow_160 : decode b_Box_measureBelow 160 = .ok (.aload_n 0, 1) := by decide +kernel
theorem d_Box_measureBelow_161 : decode b_Box_measureBelow 161 = .ok (.getfield 18, 3) := by decide +kernel
theorem d_Box_measureBelow_164 : decode b_Box_measureBelow 164 = .ok (.i2l, 1) := by decide +kernel
theorem d_Box_measureBelow_165 : decode b_Box_measureBelow 165 = .ok (.invokestatic 96, 3) := by decide +kernel
theorem d_Box_measureBelow_168 : decode b_Box_measureBelow 168 = .ok (.i2l, 1) := by decide +kernel
theorem d_Box_measureBelow_169 : decode b_Box_measureBelow 169 = .ok (.aload 4, 2) := by decide +kernel
theorem d_Box_measureBelow_171 : decode b_Box_measureBelow 171 = .ok (.getfield 107, 3) := by decide +kernel
theorem d_Box_measureBelow_174 : decode b_Box_measureBelow 174 = .ok (.i2l, 1) := by decide +kernel
theorem d_Box_measureBelow_175 : decode b_Box_measureBelow 175 = .ok (.invokestatic 96, 3) := by decide +kernel
theorem d_Box_measureBelow_178 : decode b_Box_measureBelow 178 = .ok (.putfield 15, 3) := by decide +kernel
theorem d_Box_measureBelow_181 : decode b_Box_measureBelow 181 = .ok (.aload_n 0, 1) := by decide +kernel
theorem d_Box_measureBelow_182 : decode b_Box_measureBelow 182 = .ok (.iconst 0, 1) := by decide +kernel
theorem d_Box_measureBelow_183 : decode b_Box_measureBelow 183 = .ok (.putfield 18, 3) := by decide +kernel
theorem d_Box_measureBelow_186 : decode b_Box_measureBelow 186 = .ok (.iinc 2 1, 3) := by decide +kernel
theorem d_Box_measureBelow_189 : decode b_Box_measureBelow 189 = .ok (.goto (-187), 3) := by decide +kernel
theorem d_Box_measureBelow_192 : decode b_Box_measureBelow 192 = .ok (.aload_n 0, 1) := by decide +kernel
theorem d_Box_measureBelow_193 : decode b_Box_measureBelow 193 = .ok (.getfield 18, 3) := by decide +kernel
theorem d_Box_measureBelow_196 : decode b_Box_measureBelow 196 = .ok (.iload_n 1, 1) := by decide +kernel
theorem d_Box_measureBelow_197 : decode b_Box_measureBelow 197 = .ok (.if_icmp .le 28, 3) := by decide +kernel
theorem d_Box_measureBelow_200 : decode b_Box_measureBelow 200 = .ok (.aload_n 0, 1) := by decide +kernel
theorem d_Box_measureBelow_201 : decode b_Box_measureBelow 201 = .ok (.aload_n 0, 1) := by decide +kernel
theorem d_Box_measureBelow_202 : decode b_Box_measureBelow 202 = .ok (.getfield 15, 3) := by decide +kernel
theorem d_Box_measureBelow_205 : decode b_Box_measureBelow 205 = .ok (.i2l, 1) := by decide +kernel
theorem d_Box_measureBelow_206 : decode b_Box_measureBelow 206 = .ok (.aload_n 0, 1) := by decide +kernel
theorem d_Box_measureBelow_207 : decode b_Box_measureBelow 207 = .ok (.getfield 18, 3) := by decide +kernel
theorem d_Box_measureBelow_210 : decode b_Box_measureBelow 210 = .ok (.i2l, 1) := by decide +kernel
theorem d_Box_measureBelow_211 : decode b_Box_measureBelow 211 = .ok (.iload_n 1, 1) := by decide +kernel
theorem d_Box_measureBelow_212 : decode b_Box_measureBelow 212 = .ok (.i2l, 1) := by decide +kernel
theorem d_Box_measureBelow_213 : decode b_Box_measureBelow 213 = .ok (.lsub, 1) := by decide +kernel
theorem d_Box_measureBelow_214 : decode b_Box_measureBelow 214 = .ok (.invokestatic 96, 3) := by decide +kernel
theorem d_Box_measureBelow_217 : decode b_Box_measureBelow 217 = .ok (.putfield 15, 3) := by decide +kernel
theorem d_Box_measureBelow_220 : decode b_Box_measureBelow 220 = .ok (.aload_n 0, 1) := by decide +kernel
theorem d_Box_measureBelow_221 : decode b_Box_measureBelow 221 = .ok (.iload_n 1, 1) := by decide +kernel
theorem d_Box_measureBelow_222 : decode b_Box_measureBelow 222 = .ok (.putfield 18, 3) := by decide +kernel
theorem d_Box_measureBelow_225 : decode b_Box_measureBelow 225 = .ok (.return_, 1) := by decide +kernel
abbrev b_Box_gives : ByteArray := prog_2_method_5_code
def y_Box_gives : MethodName := ⟨"BoxPacker$Box", "gives", "(Z)[I"⟩
theorem d_Box_gives_0 : decode b_Box_gives 0 = .ok (.iconst 4, 1) := by decide +kernel
theorem d_Box_gives_1 : decode b_Box_gives 1 = .ok (.newarray .int, 2) := by decide +kernel
theorem d_Box_gives_3 : decode b_Box_gives 3 = .ok (.astore_n 2, 1) := by decide +kernel
theorem d_Box_gives_4 : decode b_Box_gives 4 = .ok (.iconst 0, 1) := by decide +kernel
theorem d_Box_gives_5 : decode b_Box_gives 5 = .ok (.istore_n 3, 1) := by decide +kernel
theorem d_Box_gives_6 : decode b_Box_gives 6 = .ok (.iload_n 3, 1) := by decide +kernel
theorem d_Box_gives_7 : decode b_Box_gives 7 = .ok (.aload_n 0, 1) := by decide +kernel
theorem d_Box_gives_8 : decode b_Box_gives 8 = .ok (.getfield 39, 3) := by decide +kernel
theorem d_Box_gives_11 : decode b_Box_gives 11 = .ok (.arraylength, 1) := by decide +kernel
theorem d_Box_gives_12 : decode b_Box_gives 12 = .ok (.if_icmp .ge 59, 3) := by decide +kernel
theorem d_Box_gives_15 : decode b_Box_gives 15 = .ok (.aload_n 0, 1) := by decide +kernel
theorem d_Box_gives_16 : decode b_Box_gives 16 = .ok (.getfield 39, 3) := by decide +kernel
theorem d_Box_gives_19 : decode b_Box_gives 19 = .ok (.iload_n 3, 1) := by decide +kernel
theorem d_Box_gives_20 : decode b_Box_gives 20 = .ok (.aaload, 1) := by decide +kernel
theorem d_Box_gives_21 : decode b_Box_gives 21 = .ok (.astore 5, 2) := by decide +kernel
theorem d_Box_gives_23 : decode b_Box_gives 23 = .ok (.aload 5, 2) := by decide +kernel
theorem d_Box_gives_25 : decode b_Box_gives 25 = .ok (.instanceof 105, 3) := by decide +kernel
theorem d_Box_gives_28 : decode b_Box_gives 28 = .ok (.ifCond .eq 37, 3) := by decide +kernel
theorem d_Box_gives_31 : decode b_Box_gives 31 = .ok (.aload 5, 2) := by decide +kernel
theorem d_Box_gives_33 : decode b_Box_gives 33 = .ok (.checkcast 105, 3) := by decide +kernel
theorem d_Box_gives_36 : decode b_Box_gives 36 = .ok (.astore 4, 2) := by decide +kernel
theorem d_Box_gives_38 : decode b_Box_gives 38 = .ok (.aload 4, 2) := by decide +kernel
theorem d_Box_gives_40 : decode b_Box_gives 40 = .ok (.iload_n 1, 1) := by decide +kernel
theorem d_Box_gives_41 : decode b_Box_gives 41 = .ok (.invokevirtual 108, 3) := by decide +kernel
theorem d_Box_gives_44 : decode b_Box_gives 44 = .ok (.istore 5, 2) := by decide +kernel
theorem d_Box_gives_46 : decode b_Box_gives 46 = .ok (.aload_n 2, 1) := by decide +kernel
theorem d_Box_gives_47 : decode b_Box_gives 47 = .ok (.iload 5, 2) := by decide +kernel
theorem d_Box_gives_49 : decode b_Box_gives 49 = .ok (.aload_n 2, 1) := by decide +kernel
theorem d_Box_gives_50 : decode b_Box_gives 50 = .ok (.iload 5, 2) := by decide +kernel
theorem d_Box_gives_52 : decode b_Box_gives 52 = .ok (.iaload, 1) := by decide +kernel
theorem d_Box_gives_53 : decode b_Box_gives 53 = .ok (.i2l, 1) := by decide +kernel
theorem d_Box_gives_54 : decode b_Box_gives 54 = .ok (.aload 4, 2) := by decide +kernel
theorem d_Box_gives_56 : decode b_Box_gives 56 = .ok (.iload_n 1, 1) := by decide +kernel
theorem d_Box_gives_57 : decode b_Box_gives 57 = .ok (.invokevirtual 112, 3) := by decide +kernel
theorem d_Box_gives_60 : decode b_Box_gives 60 = .ok (.i2l, 1) := by decide +kernel
theorem d_Box_gives_61 : decode b_Box_gives 61 = .ok (.invokestatic 96, 3) := by decide +kernel
theorem d_Box_gives_64 : decode b_Box_gives 64 = .ok (.iastore, 1) := by decide +kernel
theorem d_Box_gives_65 : decode b_Box_gives 65 = .ok (.iinc 3 1, 3) := by decide +kernel
theorem d_Box_gives_68 : decode b_Box_gives 68 = .ok (.goto (-62), 3) := by decide +kernel
theorem d_Box_gives_71 : decode b_Box_gives 71 = .ok (.aload_n 2, 1) := by decide +kernel
theorem d_Box_gives_72 : decode b_Box_gives 72 = .ok (.areturn, 1) := by decide +kernel
abbrev b_Box_fillUp : ByteArray := prog_2_method_6_code
def y_Box_fillUp : MethodName := ⟨"BoxPacker$Box", "fillUp", "(II)V"⟩
theorem d_Box_fillUp_0 : decode b_Box_fillUp 0 = .ok (.aload_n 0, 1) := by decide +kernel
theorem d_Box_fillUp_1 : decode b_Box_fillUp 1 = .ok (.getfield 33, 3) := by decide +kernel
theorem d_Box_fillUp_4 : decode b_Box_fillUp 4 = .ok (.ifCond .eq 10, 3) := by decide +kernel
theorem d_Box_fillUp_7 : decode b_Box_fillUp 7 = .ok (.aload_n 0, 1) := by decide +kernel
theorem d_Box_fillUp_8 : decode b_Box_fillUp 8 = .ok (.getfield 15, 3) := by decide +kernel
theorem d_Box_fillUp_11 : decode b_Box_fillUp 11 = .ok (.goto 7, 3) := by decide +kernel
theorem d_Box_fillUp_14 : decode b_Box_fillUp 14 = .ok (.aload_n 0, 1) := by decide +kernel
theorem d_Box_fillUp_15 : decode b_Box_fillUp 15 = .ok (.getfield 9, 3) := by decide +kernel
theorem d_Box_fillUp_18 : decode b_Box_fillUp 18 = .ok (.istore_n 3, 1) := by decide +kernel
theorem d_Box_fillUp_19 : decode b_Box_fillUp 19 = .ok (.iload_n 1, 1) := by decide +kernel
theorem d_Box_fillUp_20 : decode b_Box_fillUp 20 = .ok (.iconst 1, 1) := by decide +kernel
theorem d_Box_fillUp_21 : decode b_Box_fillUp 21 = .ok (.if_icmp .ne 18, 3) := by decide +kernel
theorem d_Box_fillUp_24 : decode b_Box_fillUp 24 = .ok (.aload_n 0, 1) := by decide +kernel
theorem d_Box_fillUp_25 : decode b_Box_fillUp 25 = .ok (.iload_n 2, 1) := by decide +kernel
theorem d_Box_fillUp_26 : decode b_Box_fillUp 26 = .ok (.i2l, 1) := by decide +kernel
theorem d_Box_fillUp_27 : decode b_Box_fillUp 27 = .ok (.iload_n 3, 1) := by decide +kernel
theorem d_Box_fillUp_28 : decode b_Box_fillUp 28 = .ok (.ineg, 1) := by decide +kernel
theorem d_Box_fillUp_29 : decode b_Box_fillUp 29 = .ok (.i2l, 1) := by decide +kernel
theorem d_Box_fillUp_30 : decode b_Box_fillUp 30 = .ok (.invokestatic 96, 3) := by decide +kernel
theorem d_Box_fillUp_33 : decode b_Box_fillUp 33 = .ok (.putfield 21, 3) := by decide +kernel
theorem d_Box_fillUp_36 : decode b_Box_fillUp 36 = .ok (.goto 13, 3) := by decide +kernel
theorem d_Box_fillUp_39 : decode b_Box_fillUp 39 = .ok (.iload_n 1, 1) := by decide +kernel
theorem d_Box_fillUp_40 : decode b_Box_fillUp 40 = .ok (.iconst 2, 1) := by decide +kernel
theorem d_Box_fillUp_41 : decode b_Box_fillUp 41 = .ok (.if_icmp .ne 8, 3) := by decide +kernel
theorem d_Box_fillUp_44 : decode b_Box_fillUp 44 = .ok (.aload_n 0, 1) := by decide +kernel
theorem d_Box_fillUp_45 : decode b_Box_fillUp 45 = .ok (.iload_n 2, 1) := by decide +kernel
theorem d_Box_fillUp_46 : decode b_Box_fillUp 46 = .ok (.putfield 21, 3) := by decide +kernel
theorem d_Box_fillUp_49 : decode b_Box_fillUp 49 = .ok (.iload_n 3, 1) := by decide +kernel
theorem d_Box_fillUp_50 : decode b_Box_fillUp 50 = .ok (.i2l, 1) := by decide +kernel
theorem d_Box_fillUp_51 : decode b_Box_fillUp 51 = .ok (.aload_n 0, 1) := by decide +kernel
theorem d_Box_fillUp_52 : decode b_Box_fillUp 52 = .ok (.getfield 21, 3) := by decide +kernel
theorem d_Box_fillUp_55 : decode b_Box_fillUp 55 = .ok (.i2l, 1) := by decide +kernel
theorem d_Box_fillUp_56 : decode b_Box_fillUp 56 = .ok (.invokestatic 96, 3) := by decide +kernel
theorem d_Box_fillUp_59 : decode b_Box_fillUp 59 = .ok (.istore 4, 2) := by decide +kernel
theorem d_Box_fillUp_61 : decode b_Box_fillUp 61 = .ok (.aload_n 0, 1) := by decide +kernel
theorem d_Box_fillUp_62 : decode b_Box_fillUp 62 = .ok (.getfield 33, 3) := by decide +kernel
theorem d_Box_fillUp_65 : decode b_Box_fillUp 65 = .ok (.ifCond .eq 12, 3) := by decide +kernel
theorem d_Box_fillUp_68 : decode b_Box_fillUp 68 = .ok (.aload_n 0, 1) := by decide +kernel
theorem d_Box_fillUp_69 : decode b_Box_fillUp 69 = .ok (.iload 4, 2) := by decide +kernel
theorem d_Box_fillUp_71 : decode b_Box_fillUp 71 = .ok (.putfield 15, 3) := by decide +kernel
theorem d_Box_fillUp_74 : decode b_Box_fillUp 74 = .ok (.goto 9, 3) := by decide +kernel
theorem d_Box_fillUp_77 : decode b_Box_fillUp 77 = .ok (.aload_n 0, 1) := by decide +kernel
theorem d_Box_fillUp_78 : decode b_Box_fillUp 78 = .ok (.iload 4, 2) := by decide +kernel
theorem d_Box_fillUp_80 : decode b_Box_fillUp 80 = .ok (.putfield 9, 3) := by decide +kernel
theorem d_Box_fillUp_83 : decode b_Box_fillUp 83 = .ok (.return_, 1) := by decide +kernel
abbrev b_Box_findTotal : ByteArray := prog_2_method_7_code
def y_Box_findTotal : MethodName := ⟨"BoxPacker$Box", "findTotal", "([I)V"⟩
theorem d_Box_findTotal_0 : decode b_Box_findTotal 0 = .ok (.iconst 0, 1) := by decide +kernel
theorem d_Box_findTotal_1 : decode b_Box_findTotal 1 = .ok (.istore_n 2, 1) := by decide +kernel
theorem d_Box_findTotal_2 : decode b_Box_findTotal 2 = .ok (.iload_n 2, 1) := by decide +kernel
theorem d_Box_findTotal_3 : decode b_Box_findTotal 3 = .ok (.aload_n 1, 1) := by decide +kernel
theorem d_Box_findTotal_4 : decode b_Box_findTotal 4 = .ok (.arraylength, 1) := by decide +kernel
theorem d_Box_findTotal_5 : decode b_Box_findTotal 5 = .ok (.if_icmp .ge 27, 3) := by decide +kernel
theorem d_Box_findTotal_8 : decode b_Box_findTotal 8 = .ok (.aload_n 1, 1) := by decide +kernel
theorem d_Box_findTotal_9 : decode b_Box_findTotal 9 = .ok (.iload_n 2, 1) := by decide +kernel
theorem d_Box_findTotal_10 : decode b_Box_findTotal 10 = .ok (.iaload, 1) := by decide +kernel
theorem d_Box_findTotal_11 : decode b_Box_findTotal 11 = .ok (.ifCond .eq 15, 3) := by decide +kernel
theorem d_Box_findTotal_14 : decode b_Box_findTotal 14 = .ok (.aload_n 0, 1) := by decide +kernel
theorem d_Box_findTotal_15 : decode b_Box_findTotal 15 = .ok (.iload_n 2, 1) := by decide +kernel
theorem d_Box_findTotal_16 : decode b_Box_findTotal 16 = .ok (.putfield 24, 3) := by decide +kernel
theorem d_Box_findTotal_19 : decode b_Box_findTotal 19 = .ok (.aload_n 0, 1) := by decide +kernel
theorem d_Box_findTotal_20 : decode b_Box_findTotal 20 = .ok (.aload_n 1, 1) := by decide +kernel
theorem d_Box_findTotal_21 : decode b_Box_findTotal 21 = .ok (.iload_n 2, 1) := by decide +kernel
theorem d_Box_findTotal_22 : decode b_Box_findTotal 22 = .ok (.iaload, 1) := by decide +kernel
theorem d_Box_findTotal_23 : decode b_Box_findTotal 23 = .ok (.putfield 27, 3) := by decide +kernel
theorem d_Box_findTotal_26 : decode b_Box_findTotal 26 = .ok (.iinc 2 1, 3) := by decide +kernel
theorem d_Box_findTotal_29 : decode b_Box_findTotal 29 = .ok (.goto (-27), 3) := by decide +kernel
theorem d_Box_findTotal_32 : decode b_Box_findTotal 32 = .ok (.return_, 1) := by decide +kernel
abbrev b_Box_addShares : ByteArray := prog_2_method_8_code
def y_Box_addShares : MethodName := ⟨"BoxPacker$Box", "addShares", "()V"⟩
theorem d_Box_addShares_0 : decode b_Box_addShares 0 = .ok (.aload_n 0, 1) := by decide +kernel
theorem d_Box_addShares_1 : decode b_Box_addShares 1 = .ok (.getfield 27, 3) := by decide +kernel
theorem d_Box_addShares_4 : decode b_Box_addShares 4 = .ok (.ifCond .ne 4, 3) := by decide +kernel
theorem d_Box_addShares_7 : decode b_Box_addShares 7 = .ok (.return_, 1) := by decide +kernel
theorem d_Box_addShares_8 : decode b_Box_addShares 8 = .ok (.aload_n 0, 1) := by decide +kernel
theorem d_Box_addShares_9 : decode b_Box_addShares 9 = .ok (.getfield 21, 3) := by decide +kernel
theorem d_Box_addShares_12 : decode b_Box_addShares 12 = .ok (.ifCond .ge 7, 3) := by decide +kernel
theorem d_Box_addShares_15 : decode b_Box_addShares 15 = .ok (.iconst 1, 1) := by decide +kernel
theorem d_Box_addShares_16 : decode b_Box_addShares 16 = .ok (.goto 4, 3) := by decide +kernel
theorem d_Box_addShares_19 : decode b_Box_addShares 19 = .ok (.iconst 0, 1) := by decide +kernel
theorem d_Box_addShares_20 : decode b_Box_addShares 20 = .ok (.istore_n 1, 1) := by decide +kernel
theorem d_Box_addShares_21 : decode b_Box_addShares 21 = .ok (.aload_n 0, 1) := by decide +kernel
theorem d_Box_addShares_22 : decode b_Box_addShares 22 = .ok (.getfield 30, 3) := by decide +kernel
theorem d_Box_addShares_25 : decode b_Box_addShares 25 = .ok (.ifCond .le 12, 3) := by decide +kernel
theorem d_Box_addShares_28 : decode b_Box_addShares 28 = .ok (.aload_n 0, 1) := by decide +kernel
theorem d_Box_addShares_29 : decode b_Box_addShares 29 = .ok (.getfield 27, 3) := by decide +kernel
theorem d_Box_addShares_32 : decode b_Box_addShares 32 = .ok (.ineg, 1) := by decide +kernel
theorem d_Box_addShares_33 : decode b_Box_addShares 33 = .ok (.i2l, 1) := by decide +kernel
theorem d_Box_addShares_34 : decode b_Box_addShares 34 = .ok (.goto 8, 3) := by decide +kernel
theorem d_Box_addShares_37 : decode b_Box_addShares 37 = .ok (.aload_n 0, 1) := by decide +kernel
theorem d_Box_addShares_38 : decode b_Box_addShares 38 = .ok (.getfield 21, 3) := by decide +kernel
theorem d_Box_addShares_41 : decode b_Box_addShares 41 = .ok (.i2l, 1) := by decide +kernel
theorem d_Box_addShares_42 : decode b_Box_addShares 42 = .ok (.lstore_n 2, 1) := by decide +kernel
theorem d_Box_addShares_43 : decode b_Box_addShares 43 = .ok (.lconst 0, 1) := by decide +kernel
theorem d_Box_addShares_44 : decode b_Box_addShares 44 = .ok (.lstore 4, 2) := by decide +kernel
theorem d_Box_addShares_46 : decode b_Box_addShares 46 = .ok (.iconst 0, 1) := by decide +kernel
theorem d_Box_addShares_47 : decode b_Box_addShares 47 = .ok (.istore 6, 2) := by decide +kernel
theorem d_Box_addShares_49 : decode b_Box_addShares 49 = .ok (.iload 6, 2) := by decide +kernel
theorem d_Box_addShares_51 : decode b_Box_addShares 51 = .ok (.aload_n 0, 1) := by decide +kernel
theorem d_Box_addShares_52 : decode b_Box_addShares 52 = .ok (.getfield 39, 3) := by decide +kernel
theorem d_Box_addShares_55 : decode b_Box_addShares 55 = .ok (.arraylength, 1) := by decide +kernel
theorem d_Box_addShares_56 : decode b_Box_addShares 56 = .ok (.if_icmp .ge 79, 3) := by decide +kernel
theorem d_Box_addShares_59 : decode b_Box_addShares 59 = .ok (.aload_n 0, 1) := by decide +kernel
theorem d_Box_addShares_60 : decode b_Box_addShares 60 = .ok (.getfield 43, 3) := by decide +kernel
theorem d_Box_addShares_63 : decode b_Box_addShares 63 = .ok (.iload 6, 2) := by decide +kernel
theorem d_Box_addShares_65 : decode b_Box_addShares 65 = .ok (.dup2, 1) := by decide +kernel
theorem d_Box_addShares_66 : decode b_Box_addShares 66 = .ok (.iaload, 1) := by decide +kernel
theorem d_Box_addShares_67 : decode b_Box_addShares 67 = .ok (.lload 4, 2) := by decide +kernel
theorem d_Box_addShares_69 : decode b_Box_addShares 69 = .ok (.lload_n 2, 1) := by decide +kernel
theorem d_Box_addShares_70 : decode b_Box_addShares 70 = .ok (.lmul, 1) := by decide +kernel
theorem d_Box_addShares_71 : decode b_Box_addShares 71 = .ok (.aload_n 0, 1) := by decide +kernel
theorem d_Box_addShares_72 : decode b_Box_addShares 72 = .ok (.getfield 27, 3) := by decide +kernel
theorem d_Box_addShares_75 : decode b_Box_addShares 75 = .ok (.invokestatic 115, 3) := by decide +kernel
theorem d_Box_addShares_78 : decode b_Box_addShares 78 = .ok (.iadd, 1) := by decide +kernel
theorem d_Box_addShares_79 : decode b_Box_addShares 79 = .ok (.iastore, 1) := by decide +kernel
theorem d_Box_addShares_80 : decode b_Box_addShares 80 = .ok (.aload_n 0, 1) := by decide +kernel
theorem d_Box_addShares_81 : decode b_Box_addShares 81 = .ok (.getfield 39, 3) := by decide +kernel
theorem d_Box_addShares_84 : decode b_Box_addShares 84 = .ok (.iload 6, 2) := by decide +kernel
theorem d_Box_addShares_86 : decode b_Box_addShares 86 = .ok (.aaload, 1) := by decide +kernel
theorem d_Box_addShares_87 : decode b_Box_addShares 87 = .ok (.astore 8, 2) := by decide +kernel
theorem d_Box_addShares_89 : decode b_Box_addShares 89 = .ok (.aload 8, 2) := by decide +kernel
theorem d_Box_addShares_91 : decode b_Box_addShares 91 = .ok (.instanceof 105, 3) := by decide +kernel
theorem d_Box_addShares_94 : decode b_Box_addShares 94 = .ok (.ifCond .eq 35, 3) := by decide +kernel
theorem d_Box_addShares_97 : decode b_Box_addShares 97 = .ok (.aload 8, 2) := by decide +kernel
theorem d_Box_addShares_99 : decode b_Box_addShares 99 = .ok (.checkcast 105, 3) := by decide +kernel
theorem d_Box_addShares_102 : decode b_Box_addShares 102 = .ok (.astore 7, 2) := by decide +kernel
theorem d_Box_addShares_104 : decode b_Box_addShares 104 = .ok (.aload 7, 2) := by decide +kernel
theorem d_Box_addShares_106 : decode b_Box_addShares 106 = .ok (.iload_n 1, 1) := by decide +kernel
theorem d_Box_addShares_107 : decode b_Box_addShares 107 = .ok (.invokevirtual 108, 3) := by decide +kernel
theorem d_Box_addShares_110 : decode b_Box_addShares 110 = .ok (.aload_n 0, 1) := by decide +kernel
theorem d_Box_addShares_111 : decode b_Box_addShares 111 = .ok (.getfield 24, 3) := by decide +kernel
theorem d_Box_addShares_114 : decode b_Box_addShares 114 = .ok (.if_icmp .ne 15, 3) := by decide +kernel
theorem d_Box_addShares_117 : decode b_Box_addShares 117 = .ok (.lload 4, 2) := by decide +kernel
theorem d_Box_addShares_119 : decode b_Box_addShares 119 = .ok (.aload 7, 2) := by decide +kernel
theorem d_Box_addShares_121 : decode b_Box_addShares 121 = .ok (.iload_n 1, 1) := by decide +kernel
theorem d_Box_addShares_122 : decode b_Box_addShares 122 = .ok (.invokevirtual 112, 3) := by decide +kernel
theorem d_Box_addShares_125 : decode b_Box_addShares 125 = .ok (.i2l, 1) := by decide +kernel
theorem d_Box_addShares_126 : decode b_Box_addShares 126 = .ok (.ladd, 1) := by decide +kernel
theorem d_Box_addShares_127 : decode b_Box_addShares 127 = .ok (.lstore 4, 2) := by decide +kernel
theorem d_Box_addShares_129 : decode b_Box_addShares 129 = .ok (.iinc 6 1, 3) := by decide +kernel
theorem d_Box_addShares_132 : decode b_Box_addShares 132 = .ok (.goto (-83), 3) := by decide +kernel
theorem d_Box_addShares_135 : decode b_Box_addShares 135 = .ok (.return_, 1) := by decide +kernel
abbrev b_Box_badness : ByteArray := prog_2_method_9_code
def y_Box_badness : MethodName := ⟨"BoxPacker$Box", "badness", "()I"⟩
theorem d_Box_badness_0 : decode b_Box_badness 0 = .ok (.aload_n 0, 1) := by decide +kernel
theorem d_Box_badness_1 : decode b_Box_badness 1 = .ok (.getfield 30, 3) := by decide +kernel
theorem d_Box_badness_4 : decode b_Box_badness 4 = .ok (.ifCond .le 6, 3) := by decide +kernel
theorem d_Box_badness_7 : decode b_Box_badness 7 = .ok (.ldc 62, 2) := by decide +kernel
theorem d_Box_badness_9 : decode b_Box_badness 9 = .ok (.ireturn, 1) := by decide +kernel
theorem d_Box_badness_10 : decode b_Box_badness 10 = .ok (.aload_n 0, 1) := by decide +kernel
theorem d_Box_badness_11 : decode b_Box_badness 11 = .ok (.getfield 21, 3) := by decide +kernel
theorem d_Box_badness_14 : decode b_Box_badness 14 = .ok (.ifCond .eq 10, 3) := by decide +kernel
theorem d_Box_badness_17 : decode b_Box_badness 17 = .ok (.aload_n 0, 1) := by decide +kernel
theorem d_Box_badness_18 : decode b_Box_badness 18 = .ok (.getfield 24, 3) := by decide +kernel
theorem d_Box_badness_21 : decode b_Box_badness 21 = .ok (.ifCond .le 5, 3) := by decide +kernel
theorem d_Box_badness_24 : decode b_Box_badness 24 = .ok (.iconst 0, 1) := by decide +kernel
theorem d_Box_badness_25 : decode b_Box_badness 25 = .ok (.ireturn, 1) := by decide +kernel
theorem d_Box_badness_26 : decode b_Box_badness 26 = .ok (.aload_n 0, 1) := by decide +kernel
theorem d_Box_badness_27 : decode b_Box_badness 27 = .ok (.getfield 27, 3) := by decide +kernel
theorem d_Box_badness_30 : decode b_Box_badness 30 = .ok (.ifCond .ne 7, 3) := by decide +kernel
theorem d_Box_badness_33 : decode b_Box_badness 33 = .ok (.sipush 10000, 3) := by decide +kernel
theorem d_Box_badness_36 : decode b_Box_badness 36 = .ok (.ireturn, 1) := by decide +kernel
theorem d_Box_badness_37 : decode b_Box_badness 37 = .ok (.aload_n 0, 1) := by decide +kernel
theorem d_Box_badness_38 : decode b_Box_badness 38 = .ok (.getfield 21, 3) := by decide +kernel
theorem d_Box_badness_41 : decode b_Box_badness 41 = .ok (.invokestatic 119, 3) := by decide +kernel
theorem d_Box_badness_44 : decode b_Box_badness 44 = .ok (.aload_n 0, 1) := by decide +kernel
theorem d_Box_badness_45 : decode b_Box_badness 45 = .ok (.getfield 27, 3) := by decide +kernel
theorem d_Box_badness_48 : decode b_Box_badness 48 = .ok (.invokestatic 122, 3) := by decide +kernel
theorem d_Box_badness_51 : decode b_Box_badness 51 = .ok (.istore_n 1, 1) := by decide +kernel
theorem d_Box_badness_52 : decode b_Box_badness 52 = .ok (.iload_n 1, 1) := by decide +kernel
theorem d_Box_badness_53 : decode b_Box_badness 53 = .ok (.sipush 1290, 3) := by decide +kernel
theorem d_Box_badness_56 : decode b_Box_badness 56 = .ok (.if_icmp .le 9, 3) := by decide +kernel
theorem d_Box_badness_59 : decode b_Box_badness 59 = .ok (.sipush 10000, 3) := by decide +kernel
theorem d_Box_badness_62 : decode b_Box_badness 62 = .ok (.goto 14, 3) := by decide +kernel
theorem d_Box_badness_65 : decode b_Box_badness 65 = .ok (.iload_n 1, 1) := by decide +kernel
theorem d_Box_badness_66 : decode b_Box_badness 66 = .ok (.iload_n 1, 1) := by decide +kernel
theorem d_Box_badness_67 : decode b_Box_badness 67 = .ok (.imul, 1) := by decide +kernel
theorem d_Box_badness_68 : decode b_Box_badness 68 = .ok (.iload_n 1, 1) := by decide +kernel
theorem d_Box_badness_69 : decode b_Box_badness 69 = .ok (.imul, 1) := by decide +kernel
theorem d_Box_badness_70 : decode b_Box_badness 70 = .ok (.ldc 125, 2) := by decide +kernel
theorem d_Box_badness_72 : decode b_Box_badness 72 = .ok (.iadd, 1) := by decide +kernel
theorem d_Box_badness_73 : decode b_Box_badness 73 = .ok (.ldc 126, 2) := by decide +kernel
theorem d_Box_badness_75 : decode b_Box_badness 75 = .ok (.idiv, 1) := by decide +kernel
theorem d_Box_badness_76 : decode b_Box_badness 76 = .ok (.ireturn, 1) := by decide +kernel
abbrev b_Box_badnessRatio : ByteArray := prog_2_method_10_code
def y_Box_badnessRatio : MethodName := ⟨"BoxPacker$Box", "badnessRatio", "(II)I"⟩
theorem d_Box_badnessRatio_0 : decode b_Box_badnessRatio 0 = .ok (.iload_n 0, 1) := by decide +kernel
theorem d_Box_badnessRatio_1 : decode b_Box_badnessRatio 1 = .ok (.ldc 127, 2) := by decide +kernel
theorem d_Box_badnessRatio_3 : decode b_Box_badnessRatio 3 = .ok (.if_icmp .gt 11, 3) := by decide +kernel
theorem d_Box_badnessRatio_6 : decode b_Box_badnessRatio 6 = .ok (.sipush 297, 3) := by decide +kernel
theorem d_Box_badnessRatio_9 : decode b_Box_badnessRatio 9 = .ok (.iload_n 0, 1) := by decide +kernel
theorem d_Box_badnessRatio_10 : decode b_Box_badnessRatio 10 = .ok (.imul, 1) := by decide +kernel
theorem d_Box_badnessRatio_11 : decode b_Box_badnessRatio 11 = .ok (.iload_n 1, 1) := by decide +kernel
theorem d_Box_badnessRatio_12 : decode b_Box_badnessRatio 12 = .ok (.idiv, 1) := by decide +kernel
theorem d_Box_badnessRatio_13 : decode b_Box_badnessRatio 13 = .ok (.ireturn, 1) := by decide +kernel
theorem d_Box_badnessRatio_14 : decode b_Box_badnessRatio 14 = .ok (.iload_n 1, 1) := by decide +kernel
theorem d_Box_badnessRatio_15 : decode b_Box_badnessRatio 15 = .ok (.ldc 128, 2) := by decide +kernel
theorem d_Box_badnessRatio_17 : decode b_Box_badnessRatio 17 = .ok (.if_icmp .lt 13, 3) := by decide +kernel
theorem d_Box_badnessRatio_20 : decode b_Box_badnessRatio 20 = .ok (.iload_n 0, 1) := by decide +kernel
theorem d_Box_badnessRatio_21 : decode b_Box_badnessRatio 21 = .ok (.iload_n 1, 1) := by decide +kernel
theorem d_Box_badnessRatio_22 : decode b_Box_badnessRatio 22 = .ok (.sipush 297, 3) := by decide +kernel
theorem d_Box_badnessRatio_25 : decode b_Box_badnessRatio 25 = .ok (.idiv, 1) := by decide +kernel
theorem d_Box_badnessRatio_26 : decode b_Box_badnessRatio 26 = .ok (.idiv, 1) := by decide +kernel
theorem d_Box_badnessRatio_27 : decode b_Box_badnessRatio 27 = .ok (.goto 4, 3) := by decide +kernel
theorem d_Box_badnessRatio_30 : decode b_Box_badnessRatio 30 = .ok (.iload_n 0, 1) := by decide +kernel
theorem d_Box_badnessRatio_31 : decode b_Box_badnessRatio 31 = .ok (.ireturn, 1) := by decide +kernel
abbrev b_Item_init : ByteArray := prog_3_method_1_code
def y_Item_init : MethodName := ⟨"BoxPacker$Item", "<init>", "()V"⟩
theorem d_Item_init_0 : decode b_Item_init 0 = .ok (.aload_n 0, 1) := by decide +kernel
theorem d_Item_init_1 : decode b_Item_init 1 = .ok (.invokespecial 1, 3) := by decide +kernel
theorem d_Item_init_4 : decode b_Item_init 4 = .ok (.return_, 1) := by decide +kernel
abbrev b_Marks_init : ByteArray := prog_4_method_1_code
def y_Marks_init : MethodName := ⟨"BoxPacker$Marks", "<init>", "()V"⟩
theorem d_Marks_init_0 : decode b_Marks_init 0 = .ok (.aload_n 0, 1) := by decide +kernel
theorem d_Marks_init_1 : decode b_Marks_init 1 = .ok (.invokespecial 3, 3) := by decide +kernel
theorem d_Marks_init_4 : decode b_Marks_init 4 = .ok (.aload_n 0, 1) := by decide +kernel
theorem d_Marks_init_5 : decode b_Marks_init 5 = .ok (.sipush 6000, 3) := by decide +kernel
theorem d_Marks_init_8 : decode b_Marks_init 8 = .ok (.newarray .long, 2) := by decide +kernel
theorem d_Marks_init_10 : decode b_Marks_init 10 = .ok (.putfield 11, 3) := by decide +kernel
theorem d_Marks_init_13 : decode b_Marks_init 13 = .ok (.aload_n 0, 1) := by decide +kernel
theorem d_Marks_init_14 : decode b_Marks_init 14 = .ok (.iconst 0, 1) := by decide +kernel
theorem d_Marks_init_15 : decode b_Marks_init 15 = .ok (.putfield 15, 3) := by decide +kernel
theorem d_Marks_init_18 : decode b_Marks_init 18 = .ok (.return_, 1) := by decide +kernel
abbrev b_Marks_clear : ByteArray := prog_4_method_2_code
def y_Marks_clear : MethodName := ⟨"BoxPacker$Marks", "clear", "()V"⟩
theorem d_Marks_clear_0 : decode b_Marks_clear 0 = .ok (.aload_n 0, 1) := by decide +kernel
theorem d_Marks_clear_1 : decode b_Marks_clear 1 = .ok (.iconst 0, 1) := by decide +kernel
theorem d_Marks_clear_2 : decode b_Marks_clear 2 = .ok (.putfield 15, 3) := by decide +kernel
theorem d_Marks_clear_5 : decode b_Marks_clear 5 = .ok (.return_, 1) := by decide +kernel
abbrev b_Marks_add : ByteArray := prog_4_method_3_code
def y_Marks_add : MethodName := ⟨"BoxPacker$Marks", "add", "(IJJIII)Z"⟩
theorem d_Marks_add_0 : decode b_Marks_add 0 = .ok (.aload_n 0, 1) := by decide +kernel
theorem d_Marks_add_1 : decode b_Marks_add 1 = .ok (.getfield 15, 3) := by decide +kernel
theorem d_Marks_add_4 : decode b_Marks_add 4 = .ok (.sipush 1000, 3) := by decide +kernel
theorem d_Marks_add_7 : decode b_Marks_add 7 = .ok (.if_icmp .lt 5, 3) := by decide +kernel
theorem d_Marks_add_10 : decode b_Marks_add 10 = .ok (.iconst 0, 1) := by decide +kernel
theorem d_Marks_add_11 : decode b_Marks_add 11 = .ok (.ireturn, 1) := by decide +kernel
theorem d_Marks_add_12 : decode b_Marks_add 12 = .ok (.aload_n 0, 1) := by decide +kernel
theorem d_Marks_add_13 : decode b_Marks_add 13 = .ok (.getfield 15, 3) := by decide +kernel
theorem d_Marks_add_16 : decode b_Marks_add 16 = .ok (.bipush 6, 2) := by decide +kernel
theorem d_Marks_add_18 : decode b_Marks_add 18 = .ok (.imul, 1) := by decide +kernel
theorem d_Marks_add_19 : decode b_Marks_add 19 = .ok (.istore 9, 2) := by decide +kernel
theorem d_Marks_add_21 : decode b_Marks_add 21 = .ok (.aload_n 0, 1) := by decide +kernel
theorem d_Marks_add_22 : decode b_Marks_add 22 = .ok (.getfield 11, 3) := by decide +kernel
theorem d_Marks_add_25 : decode b_Marks_add 25 = .ok (.iload 9, 2) := by decide +kernel
theorem d_Marks_add_27 : decode b_Marks_add 27 = .ok (.iload_n 1, 1) := by decide +kernel
theorem d_Marks_add_28 : decode b_Marks_add 28 = .ok (.i2l, 1) := by decide +kernel
theorem d_Marks_add_29 : decode b_Marks_add 29 = .ok (.lastore, 1) := by decide +kernel
theorem d_Marks_add_30 : decode b_Marks_add 30 = .ok (.aload_n 0, 1) := by decide +kernel
theorem d_Marks_add_31 : decode b_Marks_add 31 = .ok (.getfield 11, 3) := by decide +kernel
theorem d_Marks_add_34 : decode b_Marks_add 34 = .ok (.iload 9, 2) := by decide +kernel
theorem d_Marks_add_36 : decode b_Marks_add 36 = .ok (.iconst 1, 1) := by decide +kernel
theorem d_Marks_add_37 : decode b_Marks_add 37 = .ok (.iadd, 1) := by decide +kernel
theorem d_Marks_add_38 : decode b_Marks_add 38 = .ok (.lload_n 2, 1) := by decide +kernel
theorem d_Marks_add_39 : decode b_Marks_add 39 = .ok (.lastore, 1) := by decide +kernel
theorem d_Marks_add_40 : decode b_Marks_add 40 = .ok (.aload_n 0, 1) := by decide +kernel
theorem d_Marks_add_41 : decode b_Marks_add 41 = .ok (.getfield 11, 3) := by decide +kernel
theorem d_Marks_add_44 : decode b_Marks_add 44 = .ok (.iload 9, 2) := by decide +kernel
theorem d_Marks_add_46 : decode b_Marks_add 46 = .ok (.iconst 2, 1) := by decide +kernel
theorem d_Marks_add_47 : decode b_Marks_add 47 = .ok (.iadd, 1) := by decide +kernel
theorem d_Marks_add_48 : decode b_Marks_add 48 = .ok (.lload 4, 2) := by decide +kernel
theorem d_Marks_add_50 : decode b_Marks_add 50 = .ok (.lastore, 1) := by decide +kernel
theorem d_Marks_add_51 : decode b_Marks_add 51 = .ok (.aload_n 0, 1) := by decide +kernel
theorem d_Marks_add_52 : decode b_Marks_add 52 = .ok (.getfield 11, 3) := by decide +kernel
theorem d_Marks_add_55 : decode b_Marks_add 55 = .ok (.iload 9, 2) := by decide +kernel
theorem d_Marks_add_57 : decode b_Marks_add 57 = .ok (.iconst 3, 1) := by decide +kernel
theorem d_Marks_add_58 : decode b_Marks_add 58 = .ok (.iadd, 1) := by decide +kernel
theorem d_Marks_add_59 : decode b_Marks_add 59 = .ok (.iload 6, 2) := by decide +kernel
theorem d_Marks_add_61 : decode b_Marks_add 61 = .ok (.i2l, 1) := by decide +kernel
theorem d_Marks_add_62 : decode b_Marks_add 62 = .ok (.lastore, 1) := by decide +kernel
theorem d_Marks_add_63 : decode b_Marks_add 63 = .ok (.aload_n 0, 1) := by decide +kernel
theorem d_Marks_add_64 : decode b_Marks_add 64 = .ok (.getfield 11, 3) := by decide +kernel
theorem d_Marks_add_67 : decode b_Marks_add 67 = .ok (.iload 9, 2) := by decide +kernel
theorem d_Marks_add_69 : decode b_Marks_add 69 = .ok (.iconst 4, 1) := by decide +kernel
theorem d_Marks_add_70 : decode b_Marks_add 70 = .ok (.iadd, 1) := by decide +kernel
theorem d_Marks_add_71 : decode b_Marks_add 71 = .ok (.iload 7, 2) := by decide +kernel
theorem d_Marks_add_73 : decode b_Marks_add 73 = .ok (.i2l, 1) := by decide +kernel
theorem d_Marks_add_74 : decode b_Marks_add 74 = .ok (.lastore, 1) := by decide +kernel
theorem d_Marks_add_75 : decode b_Marks_add 75 = .ok (.aload_n 0, 1) := by decide +kernel
theorem d_Marks_add_76 : decode b_Marks_add 76 = .ok (.getfield 11, 3) := by decide +kernel
theorem d_Marks_add_79 : decode b_Marks_add 79 = .ok (.iload 9, 2) := by decide +kernel
theorem d_Marks_add_81 : decode b_Marks_add 81 = .ok (.iconst 5, 1) := by decide +kernel
theorem d_Marks_add_82 : decode b_Marks_add 82 = .ok (.iadd, 1) := by decide +kernel
theorem d_Marks_add_83 : decode b_Marks_add 83 = .ok (.iload 8, 2) := by decide +kernel
theorem d_Marks_add_85 : decode b_Marks_add 85 = .ok (.i2l, 1) := by decide +kernel
theorem d_Marks_add_86 : decode b_Marks_add 86 = .ok (.lastore, 1) := by decide +kernel
theorem d_Marks_add_87 : decode b_Marks_add 87 = .ok (.aload_n 0, 1) := by decide +kernel
theorem d_Marks_add_88 : decode b_Marks_add 88 = .ok (.dup, 1) := by decide +kernel
theorem d_Marks_add_89 : decode b_Marks_add 89 = .ok (.getfield 15, 3) := by decide +kernel
theorem d_Marks_add_92 : decode b_Marks_add 92 = .ok (.iconst 1, 1) := by decide +kernel
theorem d_Marks_add_93 : decode b_Marks_add 93 = .ok (.iadd, 1) := by decide +kernel
theorem d_Marks_add_94 : decode b_Marks_add 94 = .ok (.putfield 15, 3) := by decide +kernel
theorem d_Marks_add_97 : decode b_Marks_add 97 = .ok (.iconst 1, 1) := by decide +kernel
theorem d_Marks_add_98 : decode b_Marks_add 98 = .ok (.ireturn, 1) := by decide +kernel
abbrev b_Solid_init : ByteArray := prog_5_method_1_code
def y_Solid_init : MethodName := ⟨"BoxPacker$Solid", "<init>", "(IIIILBoxPacker$Box;I)V"⟩
theorem d_Solid_init_0 : decode b_Solid_init 0 = .ok (.aload_n 0, 1) := by decide +kernel
theorem d_Solid_init_1 : decode b_Solid_init 1 = .ok (.invokespecial 1, 3) := by decide +kernel
theorem d_Solid_init_4 : decode b_Solid_init 4 = .ok (.aload_n 0, 1) := by decide +kernel
theorem d_Solid_init_5 : decode b_Solid_init 5 = .ok (.iload_n 1, 1) := by decide +kernel
theorem d_Solid_init_6 : decode b_Solid_init 6 = .ok (.putfield 7, 3) := by decide +kernel
theorem d_Solid_init_9 : decode b_Solid_init 9 = .ok (.aload_n 0, 1) := by decide +kernel
theorem d_Solid_init_10 : decode b_Solid_init 10 = .ok (.iload_n 2, 1) := by decide +kernel
theorem d_Solid_init_11 : decode b_Solid_init 11 = .ok (.putfield 13, 3) := by decide +kernel
theorem d_Solid_init_14 : decode b_Solid_init 14 = .ok (.aload_n 0, 1) := by decide +kernel
theorem d_Solid_init_15 : decode b_Solid_init 15 = .ok (.iload_n 3, 1) := by decide +kernel
theorem d_Solid_init_16 : decode b_Solid_init 16 = .ok (.putfield 16, 3) := by decide +kernel
theorem d_Solid_init_19 : decode b_Solid_init 19 = .ok (.aload_n 0, 1) := by decide +kernel
theorem d_Solid_init_20 : decode b_Solid_init 20 = .ok (.iload 4, 2) := by decide +kernel
theorem d_Solid_init_22 : decode b_Solid_init 22 = .ok (.putfield 19, 3) := by decide +kernel
theorem d_Solid_init_25 : decode b_Solid_init 25 = .ok (.aload_n 0, 1) := by decide +kernel
theorem d_Solid_init_26 : decode b_Solid_init 26 = .ok (.aload 5, 2) := by decide +kernel
theorem d_Solid_init_28 : decode b_Solid_init 28 = .ok (.putfield 22, 3) := by decide +kernel
theorem d_Solid_init_31 : decode b_Solid_init 31 = .ok (.aload_n 0, 1) := by decide +kernel
theorem d_Solid_init_32 : decode b_Solid_init 32 = .ok (.iload 6, 2) := by decide +kernel
theorem d_Solid_init_34 : decode b_Solid_init 34 = .ok (.putfield 26, 3) := by decide +kernel
theorem d_Solid_init_37 : decode b_Solid_init 37 = .ok (.return_, 1) := by decide +kernel
abbrev b_Space_init : ByteArray := prog_6_method_1_code
def y_Space_init : MethodName := ⟨"BoxPacker$Space", "<init>", "(IIIII)V"⟩
theorem d_Space_init_0 : decode b_Space_init 0 = .ok (.aload_n 0, 1) := by decide +kernel
theorem d_Space_init_1 : decode b_Space_init 1 = .ok (.invokespecial 1, 3) := by decide +kernel
theorem d_Space_init_4 : decode b_Space_init 4 = .ok (.aload_n 0, 1) := by decide +kernel
theorem d_Space_init_5 : decode b_Space_init 5 = .ok (.iload_n 1, 1) := by decide +kernel
theorem d_Space_init_6 : decode b_Space_init 6 = .ok (.putfield 7, 3) := by decide +kernel
theorem d_Space_init_9 : decode b_Space_init 9 = .ok (.aload_n 0, 1) := by decide +kernel
theorem d_Space_init_10 : decode b_Space_init 10 = .ok (.iload_n 2, 1) := by decide +kernel
theorem d_Space_init_11 : decode b_Space_init 11 = .ok (.putfield 13, 3) := by decide +kernel
theorem d_Space_init_14 : decode b_Space_init 14 = .ok (.aload_n 0, 1) := by decide +kernel
theorem d_Space_init_15 : decode b_Space_init 15 = .ok (.iload_n 3, 1) := by decide +kernel
theorem d_Space_init_16 : decode b_Space_init 16 = .ok (.putfield 16, 3) := by decide +kernel
theorem d_Space_init_19 : decode b_Space_init 19 = .ok (.aload_n 0, 1) := by decide +kernel
theorem d_Space_init_20 : decode b_Space_init 20 = .ok (.iload 4, 2) := by decide +kernel
theorem d_Space_init_22 : decode b_Space_init 22 = .ok (.putfield 19, 3) := by decide +kernel
theorem d_Space_init_25 : decode b_Space_init 25 = .ok (.aload_n 0, 1) := by decide +kernel
theorem d_Space_init_26 : decode b_Space_init 26 = .ok (.iload 5, 2) := by decide +kernel
theorem d_Space_init_28 : decode b_Space_init 28 = .ok (.putfield 22, 3) := by decide +kernel
theorem d_Space_init_31 : decode b_Space_init 31 = .ok (.return_, 1) := by decide +kernel
abbrev b_Space_give : ByteArray := prog_6_method_2_code
def y_Space_give : MethodName := ⟨"BoxPacker$Space", "give", "(Z)I"⟩
theorem d_Space_give_0 : decode b_Space_give 0 = .ok (.iload_n 1, 1) := by decide +kernel
theorem d_Space_give_1 : decode b_Space_give 1 = .ok (.ifCond .eq 10, 3) := by decide +kernel
theorem d_Space_give_4 : decode b_Space_give 4 = .ok (.aload_n 0, 1) := by decide +kernel
theorem d_Space_give_5 : decode b_Space_give 5 = .ok (.getfield 19, 3) := by decide +kernel
theorem d_Space_give_8 : decode b_Space_give 8 = .ok (.goto 7, 3) := by decide +kernel
theorem d_Space_give_11 : decode b_Space_give 11 = .ok (.aload_n 0, 1) := by decide +kernel
theorem d_Space_give_12 : decode b_Space_give 12 = .ok (.getfield 13, 3) := by decide +kernel
theorem d_Space_give_15 : decode b_Space_give 15 = .ok (.ireturn, 1) := by decide +kernel
abbrev b_Space_giveOrder : ByteArray := prog_6_method_3_code
def y_Space_giveOrder : MethodName := ⟨"BoxPacker$Space", "giveOrder", "(Z)I"⟩
theorem d_Space_giveOrder_0 : decode b_Space_giveOrder 0 = .ok (.iload_n 1, 1) := by decide +kernel
theorem d_Space_giveOrder_1 : decode b_Space_giveOrder 1 = .ok (.ifCond .eq 10, 3) := by decide +kernel
theorem d_Space_giveOrder_4 : decode b_Space_giveOrder 4 = .ok (.aload_n 0, 1) := by decide +kernel
theorem d_Space_giveOrder_5 : decode b_Space_giveOrder 5 = .ok (.getfield 22, 3) := by decide +kernel
theorem d_Space_giveOrder_8 : decode b_Space_giveOrder 8 = .ok (.goto 7, 3) := by decide +kernel
theorem d_Space_giveOrder_11 : decode b_Space_giveOrder 11 = .ok (.aload_n 0, 1) := by decide +kernel
theorem d_Space_giveOrder_12 : decode b_Space_giveOrder 12 = .ok (.getfield 16, 3) := by decide +kernel
theorem d_Space_giveOrder_15 : decode b_Space_giveOrder 15 = .ok (.ireturn, 1) := by decide +kernel
end
section
/-! ===== what holds of the tables, everywhere ===== -/
def TX : List Cond := [.laysStatic Bundle.tN "UNASSIGNED_STACK" Bundle.steD, .laysStatic Bundle.tN "SUPPRESSED_SENTINEL" Bundle.listD, .isRef (.static Bundle.tN "UNASSIGNED_STACK" Bundle.steD), .isRef (.static Bundle.tN "SUPPRESSED_SENTINEL" Bundle.listD)]
def ST : List (String × Nat × String) := [("BoxPacker", 38, "the tag is not 0 .. 65535"), ("BoxPacker", 47, "the width, height or depth is no size"), ("BoxPacker", 170, "there are 100 items"), ("BoxPacker", 65, "the width, height or depth is neither a size nor RUNNING"), ("BoxPacker", 67, "the width is no size"), ("BoxPacker", 69, "the stretch or shrink is no size or below 0"), ("BoxPacker", 74, "an order is not 0 .. 3"), ("BoxPacker", 172, "there is no such box"), ("BoxPacker", 85, "the shift is no size"), ("BoxPacker", 96, "how is not 0 .. 2"), ("BoxPacker", 98, "the size or the greatest depth is no size"), ("BoxPacker", 102, "there are 100 boxes"), ("BoxPacker", 111, "the box would be more than 10 deep"), ("BoxPacker", 213, "a sum of sizes is no size"), ("BoxPacker", 141, "what is not 0 .. 10"), ("BoxPacker", 148, "there is no such item"), ("BoxPacker", 150, "x or y is no size"), ("BoxPacker", 162, "there is no such mark"), ("BoxPacker", 164, "what is not 0 .. 5")]
def NC : List (String × String) := [("BoxPacker$Space", "BoxPacker$Solid"), ("BoxPacker$Solid", "BoxPacker$Space"), ("java/lang/UnsupportedOperationException", "java/lang/IllegalArgumentException"), ("java/lang/IllegalArgumentException", "java/lang/IndexOutOfBoundsException"), ("java/lang/UnsupportedOperationException", "java/lang/IndexOutOfBoundsException"), ("java/lang/IllegalStateException", "java/lang/IllegalArgumentException"), ("java/lang/IllegalStateException", "java/lang/UnsupportedOperationException")]
def Fa (D : va_G) (cA : Nat → ClassId) (U : State) : Prop :=
  (∀ (A : Array Value) (w : Cond), w ∈ TS → w.before A U = true) ∧ va_K D CL (TY cA) U ∧ (∀ (A : Array Value) (w : Cond), w ∈ TX → w.before A U = true) ∧ (∀ q ∈ ST, ∃ a : Nat, vk_R q.1 q.2.1 q.2.2 a U) ∧ ∀ q ∈ NC, va_Nc q.1 q.2 U
/-- the room of a method k calls above the deepest one -/
abbrev RM (k c s : Nat) : Room := { frames := 10 + k, cells := c, slots := s, locals := 200 + 40 * k }
/-- a body without handlers, by its walk -/
theorem hv_Met.of {l : Launch} {y : MethodName} {own : String} {cc : ByteArray} {maxL : Nat} {ret : Option FieldType} {rm : Room} {b0 : Nat} {D : va_G} {cA : Nat → ClassId} {As : List Value} {f : hv_M} {post : Option Value → hv_M → Prop} {thr : String → hv_M → Prop}
    (hy : plainName y.cls = true) (ho : y.cls = own) (hn : (lg_sl As).length ≤ maxL)
    (body : ∀ (p : Program) (e : Env) (s : State) (m : MethodId) (below : List Frame) (meth : Method) (c : Code), hv_E p c cc s m As.toArray own TS D CL (TY cA) → c.maxLocals = maxL → c.exceptionTable.toList = [] → meth.sig.returnType = ret → meth.locks = false → meth.name = y.name →
      hv_KK b0 (Fa D cA) s → hv_I D CL b0 f s.heap s.heap [] → ∀ ls : Array Slot, lv_has ls maxL (lv_args 0 As) →
      W p l e rm s m As.toArray below meth c s.heap [] 0 0 (xh_MQ below (hv_Q b0 (Fa D cA) D CL post thr) s rm.cells rm.slots (fun q => b0 ≤ q)) (F0 m 0 ls [])) :
    hv_Met l y [Cond.code y cc maxL ret] rm b0 (Fa D cA) D CL As f post thr := by
  refine xh_Met.ofW hy rfl ?_
  intro p e s m args below meth c s₁ B hml hout hP
  obtain ⟨rfl, hU⟩ := hP
  have hFa : Fa D cA s := hU.2.2.2.here
  have hl := lv_entry As (n := maxL) hn
  rw [lg_entry_eq]
  exact body p e s m below meth c ⟨B.exec, B.bytes, by rw [← ho]; exact findClass_of_methodNamed B.named, hFa.1 _, hFa.2.1⟩ hml hout B.returns B.notSynchronized (name_of_methodNamed B.named B.method).1 hU.2.2.2 hU.start _ hl
/-- what a caller knows of a callee: its code among the words, its class made ready, its parameters -/
def hv_cd (y : MethodName) (bytes : ByteArray) (maxL : Nat) (ret : Option FieldType) (n : Nat) : Prop :=
  Cond.code y bytes maxL ret ∈ TS ∧ Cond.initialized y.cls ∈ TS ∧ (y.cls ≠ "java/lang/invoke/MethodHandle" ∧ y.cls ≠ "java/lang/invoke/VarHandle" ∧ (parseMethodDescriptor y.desc).map (fun d => d.parameters.length) = some n)
theorem hv_good {w : Cond} {args : Array Value} {s : State} (hg : goodWord w = true) (h : w.before args s = true) : ∀ (a' : Array Value) (U : State), s.WarmedH U.vm → w.before a' U = true := fun a' U hW => word_at hW (good_of_word hg) h
section HVC
variable {p : Program} {l : Launch} {e : Env} {R : Room} {s : State} {m : MethodId} {args : Array Value} {below : List Frame} {meth : Method} {c : Code} {H : Heap} {locs : List Loc} {cells slots : Nat} {Q : State → Prop}
variable {cc bytes : ByteArray} {pc nL maxL n index : Nat} {ls : Array Slot} {rest : List Value} {D : va_G} {cA : Nat → ClassId} {b0 : Nat} {f : hv_M} {post : Option Value → hv_M → Prop} {thr : String → hv_M → Prop} {own host C : String} {y : MethodName} {ret : Option FieldType} {rm : Room} {As : List Value} {b ci : Nat} {fs : List Value} {r : vw_C}
theorem hv_cb (hE : hv_E p c cc s m args own TS D CL (TY cA)) (cd : hv_cd y bytes maxL ret n) (hR : rm.frames + 1 ≤ R.frames ∧ 8 + (maxL + 11) + rm.locals ≤ R.locals) : xh_CB R s y bytes maxL ret [] [Cond.code y bytes maxL ret] rm n := by
  obtain ⟨h1, h2, h3, h4, h5⟩ := cd
  have w1 := hv_good (w := Cond.code y bytes maxL ret) rfl (hE.2.2.2.1 _ h1)
  have w2 := hv_good (w := Cond.initialized y.cls) rfl (hE.2.2.2.1 _ h2)
  refine ⟨hR.1, hR.2, fun w hw => ?_, fun a' U hW => xh_cw (w1 a' U hW), w2, ⟨h3, h4⟩, fun sig h => ?_⟩
  · rw [List.mem_singleton.mp hw]; exact w1
  · rw [h] at h5
    exact (Option.some.inj h5).symm
theorem hv_pre (hK : hv_KK b0 (Fa D cA) s) (hI : hv_I D CL b0 f s.heap H locs) (As : List Value) : ∀ U : State, U.heap = H → s.WarmedH U.vm → hv_Pc b0 (Fa D cA) D CL As f As.toArray U := fun U hU hW => ⟨rfl, hI.U hK hU hW⟩
/-- a static call -/
theorem hv_S (hE : hv_E p c cc s m args own TS D CL (TY cA)) (hml : c.maxLocals = nL) (hK : hv_KK b0 (Fa D cA) s) (hI : hv_I D CL b0 f s.heap H locs) (hM : hv_Met l y [Cond.code y bytes maxL ret] rm b0 (Fa D cA) D CL As f post thr) (cd : hv_cd y bytes maxL ret n) (hlink : Cond.methodLink own index y ∈ TS) (hstat : Cond.static y ∈ TS)
    (hn : As.length = n) (hsize : ls.size = nL) (hW9 : (rest.map fun v => v.category).sum ≤ 8) (hdg : decode cc pc = .ok (.invokestatic index, 3)) (hR : rm.frames + 1 ≤ R.frames ∧ 8 + (maxL + 11) + rm.locals ≤ R.locals) (hf : cells + rm.cells ≤ R.cells ∧ slots + rm.slots ≤ R.slots)
    (kr : ∀ (v : Option Value) (g : hv_M) (H1 : Heap) (locs1 : List Loc), post v g → hv_I D CL b0 g s.heap H1 locs1 → W p l e R s m args below meth c H1 locs1 (cells + rm.cells) (slots + rm.slots) Q (F0 m (pc + 3) ls (v.toList ++ rest)))
    (kx : ∀ (q : Addr) (E : String) (ce : Cell) (g : hv_M) (H1 : Heap) (locs1 : List Loc), thr E g → hv_I D CL b0 g s.heap H1 locs1 → H1[q]? = some ce → ce.vm = .none → s.vm.findClass E = some ce.cls → xh_W p l e R s m args below meth c H1 locs1 (cells + rm.cells) (slots + rm.slots) Q (F0 m pc ls rest) q) :
    W p l e R s m args below meth c H locs cells slots Q (F0 m pc ls (As.reverse ++ rest)) :=
  hv_call (xh_runS hE.1 hE.2.1 hml hE.2.2.1 hM (hv_cb hE cd hR) (hE.2.2.2.1 _ hlink) (hE.2.2.2.1 _ hstat) hv_blind (hv_pre hK hI As) hn hsize (lv_room hW9) hdg hf) hI kr kx
/-- a static call of a nest mate's private method -/
theorem hv_SN (hE : hv_E p c cc s m args own TS D CL (TY cA)) (hml : c.maxLocals = nL) (hK : hv_KK b0 (Fa D cA) s) (hI : hv_I D CL b0 f s.heap H locs) (hM : hv_Met l y [Cond.code y bytes maxL ret] rm b0 (Fa D cA) D CL As f post thr) (cd : hv_cd y bytes maxL ret n) (hlink : Cond.methodLinkNest own index y host ∈ TS) (hstat : Cond.static y ∈ TS)
    (hn : As.length = n) (hsize : ls.size = nL) (hW9 : (rest.map fun v => v.category).sum ≤ 8) (hdg : decode cc pc = .ok (.invokestatic index, 3)) (hR : rm.frames + 1 ≤ R.frames ∧ 8 + (maxL + 11) + rm.locals ≤ R.locals) (hf : cells + rm.cells ≤ R.cells ∧ slots + rm.slots ≤ R.slots)
    (kr : ∀ (v : Option Value) (g : hv_M) (H1 : Heap) (locs1 : List Loc), post v g → hv_I D CL b0 g s.heap H1 locs1 → W p l e R s m args below meth c H1 locs1 (cells + rm.cells) (slots + rm.slots) Q (F0 m (pc + 3) ls (v.toList ++ rest)))
    (kx : ∀ (q : Addr) (E : String) (ce : Cell) (g : hv_M) (H1 : Heap) (locs1 : List Loc), thr E g → hv_I D CL b0 g s.heap H1 locs1 → H1[q]? = some ce → ce.vm = .none → s.vm.findClass E = some ce.cls → xh_W p l e R s m args below meth c H1 locs1 (cells + rm.cells) (slots + rm.slots) Q (F0 m pc ls rest) q) :
    W p l e R s m args below meth c H locs cells slots Q (F0 m pc ls (As.reverse ++ rest)) :=
  hv_call (xh_runSN hE.1 hE.2.1 hml hE.2.2.1 hM (hv_cb hE cd hR) (hE.2.2.2.1 _ hlink) (hE.2.2.2.1 _ hstat) hv_blind (hv_pre hK hI As) hn hsize (lv_room hW9) hdg hf) hI kr kx
/-- a virtual call -/
theorem hv_V (hE : hv_E p c cc s m args own TS D CL (TY cA)) (hml : c.maxLocals = nL) (hK : hv_KK b0 (Fa D cA) s) (hI : hv_I D CL b0 f s.heap H locs) (hM : hv_Met l y [Cond.code y bytes maxL ret] rm b0 (Fa D cA) D CL (.ref b :: As) f post thr) (cd : hv_cd y bytes maxL ret n) (hlink : Cond.methodLink own index y ∈ TS) (hinst : Cond.instanceMethod y ∈ TS) (hsel : Cond.selects r.1 y y ∈ TS)
    (he : f b = some (.inr (ci, fs))) (hc : CL[ci]? = some r)
    (hn : As.length = n) (hsize : ls.size = nL) (hW9 : (rest.map fun v => v.category).sum ≤ 8) (hdg : decode cc pc = .ok (.invokevirtual index, 3)) (hR : rm.frames + 1 ≤ R.frames ∧ 8 + (maxL + 11) + rm.locals ≤ R.locals) (hf : cells + rm.cells ≤ R.cells ∧ slots + rm.slots ≤ R.slots)
    (kr : ∀ (v : Option Value) (g : hv_M) (H1 : Heap) (locs1 : List Loc), post v g → hv_I D CL b0 g s.heap H1 locs1 → W p l e R s m args below meth c H1 locs1 (cells + rm.cells) (slots + rm.slots) Q (F0 m (pc + 3) ls (v.toList ++ rest)))
    (kx : ∀ (q : Addr) (E : String) (ce : Cell) (g : hv_M) (H1 : Heap) (locs1 : List Loc), thr E g → hv_I D CL b0 g s.heap H1 locs1 → H1[q]? = some ce → ce.vm = .none → s.vm.findClass E = some ce.cls → xh_W p l e R s m args below meth c H1 locs1 (cells + rm.cells) (slots + rm.slots) Q (F0 m pc ls rest) q) :
    W p l e R s m args below meth c H locs cells slots Q (F0 m pc ls (As.reverse ++ .ref b :: rest)) :=
  hv_call (xh_runV hE.1 hE.2.1 hml hE.2.2.1 hM (hv_cb hE cd hR) (hE.2.2.2.1 _ hlink) (hE.2.2.2.1 _ hinst) (hE.2.2.2.1 _ hsel) hv_blind (hv_recv hE hI he hc) (hv_pre hK hI (.ref b :: As)) hn hsize (lv_room hW9) hdg hf) hI kr kx
/-- a virtual call of a nest mate's private method -/
theorem hv_VN (hE : hv_E p c cc s m args own TS D CL (TY cA)) (hml : c.maxLocals = nL) (hK : hv_KK b0 (Fa D cA) s) (hI : hv_I D CL b0 f s.heap H locs) (hM : hv_Met l y [Cond.code y bytes maxL ret] rm b0 (Fa D cA) D CL (.ref b :: As) f post thr) (cd : hv_cd y bytes maxL ret n) (hlink : Cond.methodLinkNest own index y host ∈ TS) (hinst : Cond.instanceMethod y ∈ TS) (hsel : Cond.selects r.1 y y ∈ TS)
    (he : f b = some (.inr (ci, fs))) (hc : CL[ci]? = some r)
    (hn : As.length = n) (hsize : ls.size = nL) (hW9 : (rest.map fun v => v.category).sum ≤ 8) (hdg : decode cc pc = .ok (.invokevirtual index, 3)) (hR : rm.frames + 1 ≤ R.frames ∧ 8 + (maxL + 11) + rm.locals ≤ R.locals) (hf : cells + rm.cells ≤ R.cells ∧ slots + rm.slots ≤ R.slots)
    (kr : ∀ (v : Option Value) (g : hv_M) (H1 : Heap) (locs1 : List Loc), post v g → hv_I D CL b0 g s.heap H1 locs1 → W p l e R s m args below meth c H1 locs1 (cells + rm.cells) (slots + rm.slots) Q (F0 m (pc + 3) ls (v.toList ++ rest)))
    (kx : ∀ (q : Addr) (E : String) (ce : Cell) (g : hv_M) (H1 : Heap) (locs1 : List Loc), thr E g → hv_I D CL b0 g s.heap H1 locs1 → H1[q]? = some ce → ce.vm = .none → s.vm.findClass E = some ce.cls → xh_W p l e R s m args below meth c H1 locs1 (cells + rm.cells) (slots + rm.slots) Q (F0 m pc ls rest) q) :
    W p l e R s m args below meth c H locs cells slots Q (F0 m pc ls (As.reverse ++ .ref b :: rest)) :=
  hv_call (xh_runVN hE.1 hE.2.1 hml hE.2.2.1 hM (hv_cb hE cd hR) (hE.2.2.2.1 _ hlink) (hE.2.2.2.1 _ hinst) (hE.2.2.2.1 _ hsel) hv_blind (hv_recv hE hI he hc) (hv_pre hK hI (.ref b :: As)) hn hsize (lv_room hW9) hdg hf) hI kr kx
/-- a constructor -/
theorem hv_C (hE : hv_E p c cc s m args own TS D CL (TY cA)) (hml : c.maxLocals = nL) (hK : hv_KK b0 (Fa D cA) s) (hI : hv_I D CL b0 f s.heap H locs) (hM : hv_Met l y [Cond.code y bytes maxL none] rm b0 (Fa D cA) D CL (.ref b :: As) f post thr) (cd : hv_cd y bytes maxL none n) (hy1 : y.name = "<init>") (hlink : Cond.methodLink own index y ∈ TS) (hinst : Cond.instanceMethod y ∈ TS)
    (hn : As.length = n) (hsize : ls.size = nL) (hW9 : (rest.map fun v => v.category).sum ≤ 8) (hdg : decode cc pc = .ok (.invokespecial index, 3)) (hR : rm.frames + 1 ≤ R.frames ∧ 8 + (maxL + 11) + rm.locals ≤ R.locals) (hf : cells + rm.cells ≤ R.cells ∧ slots + rm.slots ≤ R.slots)
    (kr : ∀ (v : Option Value) (g : hv_M) (H1 : Heap) (locs1 : List Loc), post v g → hv_I D CL b0 g s.heap H1 locs1 → W p l e R s m args below meth c H1 locs1 (cells + rm.cells) (slots + rm.slots) Q (F0 m (pc + 3) ls (v.toList ++ rest)))
    (kx : ∀ (q : Addr) (E : String) (ce : Cell) (g : hv_M) (H1 : Heap) (locs1 : List Loc), thr E g → hv_I D CL b0 g s.heap H1 locs1 → H1[q]? = some ce → ce.vm = .none → s.vm.findClass E = some ce.cls → xh_W p l e R s m args below meth c H1 locs1 (cells + rm.cells) (slots + rm.slots) Q (F0 m pc ls rest) q) :
    W p l e R s m args below meth c H locs cells slots Q (F0 m pc ls (As.reverse ++ .ref b :: rest)) :=
  hv_call (xh_runI hE.1 hE.2.1 hml hE.2.2.1 hM (hv_cb hE cd hR) hy1 (hE.2.2.2.1 _ hlink) (hE.2.2.2.1 _ hinst) (hE.2.2.2.1 _ cd.1) hv_blind (hv_pre hK hI (.ref b :: As)) hn hsize (lv_room hW9) hdg hf) hI kr kx
/-- a nest mate's private constructor -/
theorem hv_CN (hE : hv_E p c cc s m args own TS D CL (TY cA)) (hml : c.maxLocals = nL) (hK : hv_KK b0 (Fa D cA) s) (hI : hv_I D CL b0 f s.heap H locs) (hM : hv_Met l y [Cond.code y bytes maxL none] rm b0 (Fa D cA) D CL (.ref b :: As) f post thr) (cd : hv_cd y bytes maxL none n) (hy1 : y.name = "<init>") (hlink : Cond.methodLinkNest own index y host ∈ TS) (hinst : Cond.instanceMethod y ∈ TS)
    (hn : As.length = n) (hsize : ls.size = nL) (hW9 : (rest.map fun v => v.category).sum ≤ 8) (hdg : decode cc pc = .ok (.invokespecial index, 3)) (hR : rm.frames + 1 ≤ R.frames ∧ 8 + (maxL + 11) + rm.locals ≤ R.locals) (hf : cells + rm.cells ≤ R.cells ∧ slots + rm.slots ≤ R.slots)
    (kr : ∀ (v : Option Value) (g : hv_M) (H1 : Heap) (locs1 : List Loc), post v g → hv_I D CL b0 g s.heap H1 locs1 → W p l e R s m args below meth c H1 locs1 (cells + rm.cells) (slots + rm.slots) Q (F0 m (pc + 3) ls (v.toList ++ rest)))
    (kx : ∀ (q : Addr) (E : String) (ce : Cell) (g : hv_M) (H1 : Heap) (locs1 : List Loc), thr E g → hv_I D CL b0 g s.heap H1 locs1 → H1[q]? = some ce → ce.vm = .none → s.vm.findClass E = some ce.cls → xh_W p l e R s m args below meth c H1 locs1 (cells + rm.cells) (slots + rm.slots) Q (F0 m pc ls rest) q) :
    W p l e R s m args below meth c H locs cells slots Q (F0 m pc ls (As.reverse ++ .ref b :: rest)) :=
  hv_call (xh_runIN hE.1 hE.2.1 hml hE.2.2.1 hM (hv_cb hE cd hR) hy1 (hE.2.2.2.1 _ hlink) (hE.2.2.2.1 _ hinst) (hE.2.2.2.1 _ cd.1) hv_blind (hv_pre hK hI (.ref b :: As)) hn hsize (lv_room hW9) hdg hf) hI kr kx
/-- the words of a throw, out of the tables' -/
theorem hv_thr {cls text : String} {names : List String} {ik is ic : Nat} (hw : ∀ w ∈ Cond.classLink own ik cls :: Cond.initialized cls :: Bundle.ownAtoms own ic cls names, w ∈ TS ∨ w ∈ TX) (hs : (own, is, text) ∈ ST) : ∀ U : State, Fa D cA U →
    (∀ (A : Array Value) (w : Cond), w ∈ Cond.classLink own ik cls :: Cond.initialized cls :: Bundle.ownAtoms own ic cls names → w.before A U = true) ∧ ∃ sa : Nat, vk_R own is text sa U :=
  fun U h => ⟨fun A w hw9 => (hw w hw9).elim (h.1 A w) (h.2.2.1 A w), h.2.2.2.1 _ hs⟩
end HVC
end
section
/-! ===== callees ===== -/
theorem cd_BP_init : hv_cd y_BP_init b_BP_init 1 none 0 := ⟨w20, w1, by decide, by decide, by decide +kernel⟩
theorem cd_BP_leaf : hv_cd y_BP_leaf b_BP_leaf 5 (some FieldType.int) 4 := ⟨w80, w1, by decide, by decide, by decide +kernel⟩
theorem cd_BP_rule : hv_cd y_BP_rule b_BP_rule 4 (some FieldType.int) 3 := ⟨w226, w1, by decide, by decide, by decide +kernel⟩
theorem cd_BP_glue : hv_cd y_BP_glue b_BP_glue 6 (some FieldType.int) 5 := ⟨w238, w1, by decide, by decide, by decide +kernel⟩
theorem cd_BP_kern : hv_cd y_BP_kern b_BP_kern 2 (some FieldType.int) 1 := ⟨w274, w1, by decide, by decide, by decide +kernel⟩
theorem cd_BP_box : hv_cd y_BP_box b_BP_box 4 (some FieldType.int) 2 := ⟨w282, w1, by decide, by decide, by decide +kernel⟩
theorem cd_BP_keep : hv_cd y_BP_keep b_BP_keep 2 (some FieldType.boolean) 1 := ⟨w63, w1, by decide, by decide, by decide +kernel⟩
theorem cd_BP_items : hv_cd y_BP_items b_BP_items 1 (some FieldType.int) 0 := ⟨w67, w1, by decide, by decide, by decide +kernel⟩
theorem cd_BP_pack : hv_cd y_BP_pack b_BP_pack 7 (some FieldType.int) 4 := ⟨w311, w1, by decide, by decide, by decide +kernel⟩
theorem cd_BP_boxes : hv_cd y_BP_boxes b_BP_boxes 1 (some FieldType.int) 0 := ⟨w71, w1, by decide, by decide, by decide +kernel⟩
theorem cd_BP_of : hv_cd y_BP_of b_BP_of 4 (some FieldType.int) 2 := ⟨w452, w1, by decide, by decide, by decide +kernel⟩
theorem cd_BP_place : hv_cd y_BP_place b_BP_place 4 (some FieldType.int) 2 := ⟨w474, w1, by decide, by decide, by decide +kernel⟩
theorem cd_BP_lay : hv_cd y_BP_lay b_BP_lay 5 (some FieldType.int) 3 := ⟨w482, w1, by decide, by decide, by decide +kernel⟩
theorem cd_BP_mark : hv_cd y_BP_mark b_BP_mark 3 (some FieldType.long) 2 := ⟨w507, w1, by decide, by decide, by decide +kernel⟩
theorem cd_BP_refuseWhenFull : hv_cd y_BP_refuseWhenFull b_BP_refuseWhenFull 1 none 0 := ⟨w160, w1, by decide, by decide, by decide +kernel⟩
theorem cd_BP_append : hv_cd y_BP_append b_BP_append 3 (some FieldType.int) 1 := ⟨w219, w1, by decide, by decide, by decide +kernel⟩
theorem cd_BP_boxNumbered : hv_cd y_BP_boxNumbered b_BP_boxNumbered 2 (some (FieldType.object "BoxPacker$Box")) 1 := ⟨w286, w1, by decide, by decide, by decide +kernel⟩
theorem cd_BP_layOut : hv_cd y_BP_layOut b_BP_layOut 9 (some FieldType.boolean) 3 := ⟨w491, w1, by decide, by decide, by decide +kernel⟩
theorem cd_BP_layOutItem : hv_cd y_BP_layOutItem b_BP_layOutItem 16 (some FieldType.boolean) 5 := ⟨w495, w1, by decide, by decide, by decide +kernel⟩
theorem cd_BP_isSize : hv_cd y_BP_isSize b_BP_isSize 2 (some FieldType.boolean) 1 := ⟨w153, w1, by decide, by decide, by decide +kernel⟩
theorem cd_BP_isSizeOrRunning : hv_cd y_BP_isSizeOrRunning b_BP_isSizeOrRunning 1 (some FieldType.boolean) 1 := ⟨w229, w1, by decide, by decide, by decide +kernel⟩
theorem cd_BP_isOrder : hv_cd y_BP_isOrder b_BP_isOrder 1 (some FieldType.boolean) 1 := ⟨w243, w1, by decide, by decide, by decide +kernel⟩
theorem cd_BP_known2 : hv_cd y_BP_known2 b_BP_known2 2 (some FieldType.int) 2 := ⟨w412, w1, by decide, by decide, by decide +kernel⟩
theorem cd_BP_known1 : hv_cd y_BP_known1 b_BP_known1 1 (some FieldType.int) 1 := ⟨w409, w1, by decide, by decide, by decide +kernel⟩
theorem cd_BP_sum : hv_cd y_BP_sum b_BP_sum 6 (some FieldType.int) 2 := ⟨w390, w1, by decide, by decide, by decide +kernel⟩
theorem cd_BP_dividedToNearest : hv_cd y_BP_dividedToNearest b_BP_dividedToNearest 7 (some FieldType.int) 2 := ⟨w444, w1, by decide, by decide, by decide +kernel⟩
theorem cd_Mo_init : hv_cd ⟨"BoxPackerModel", "<init>", "()V"⟩ prog_8_method_1_code 1 none 0 := ⟨w514, w3, by decide, by decide, by decide +kernel⟩
theorem cd_Mo_thrown : hv_cd ⟨"BoxPackerModel", "thrown", "()I"⟩ prog_8_method_2_code 1 (some FieldType.int) 0 := ⟨w603, w3, by decide, by decide, by decide +kernel⟩
theorem cd_Mo_isSize : hv_cd ⟨"BoxPackerModel", "isSize", "(J)Z"⟩ prog_8_method_3_code 2 (some FieldType.boolean) 1 := ⟨w611, w3, by decide, by decide, by decide +kernel⟩
theorem cd_Mo_append : hv_cd ⟨"BoxPackerModel", "append", "(IIIIII)I"⟩ prog_8_method_4_code 7 (some FieldType.int) 6 := ⟨w621, w3, by decide, by decide, by decide +kernel⟩
theorem cd_Mo_isFull : hv_cd ⟨"BoxPackerModel", "isFull", "()Z"⟩ prog_8_method_5_code 1 (some FieldType.boolean) 0 := ⟨w617, w3, by decide, by decide, by decide +kernel⟩
theorem cd_Mo_leaf : hv_cd ⟨"BoxPackerModel", "leaf", "(IIII)I"⟩ prog_8_method_6_code 6 (some FieldType.int) 4 := ⟨w607, w3, by decide, by decide, by decide +kernel⟩
theorem cd_Mo_isRuleSize : hv_cd ⟨"BoxPackerModel", "isRuleSize", "(I)Z"⟩ prog_8_method_7_code 1 (some FieldType.boolean) 1 := ⟨w628, w3, by decide, by decide, by decide +kernel⟩
theorem cd_Mo_rule : hv_cd ⟨"BoxPackerModel", "rule", "(III)I"⟩ prog_8_method_8_code 4 (some FieldType.int) 3 := ⟨w625, w3, by decide, by decide, by decide +kernel⟩
theorem cd_Mo_isOrder : hv_cd ⟨"BoxPackerModel", "isOrder", "(I)Z"⟩ prog_8_method_9_code 1 (some FieldType.boolean) 1 := ⟨w636, w3, by decide, by decide, by decide +kernel⟩
theorem cd_Mo_glue : hv_cd ⟨"BoxPackerModel", "glue", "(IIIII)I"⟩ prog_8_method_10_code 7 (some FieldType.int) 5 := ⟨w633, w3, by decide, by decide, by decide +kernel⟩
theorem cd_Mo_kern : hv_cd ⟨"BoxPackerModel", "kern", "(I)I"⟩ prog_8_method_11_code 2 (some FieldType.int) 1 := ⟨w640, w3, by decide, by decide, by decide +kernel⟩
theorem cd_Mo_isBox : hv_cd ⟨"BoxPackerModel", "isBox", "(I)Z"⟩ prog_8_method_12_code 2 (some FieldType.boolean) 1 := ⟨w648, w3, by decide, by decide, by decide +kernel⟩
theorem cd_Mo_box : hv_cd ⟨"BoxPackerModel", "box", "(II)I"⟩ prog_8_method_13_code 3 (some FieldType.int) 2 := ⟨w644, w3, by decide, by decide, by decide +kernel⟩
theorem cd_Mo_keep : hv_cd ⟨"BoxPackerModel", "keep", "(I)Z"⟩ prog_8_method_14_code 2 (some FieldType.boolean) 1 := ⟨w652, w3, by decide, by decide, by decide +kernel⟩
theorem cd_Mo_items : hv_cd ⟨"BoxPackerModel", "items", "()I"⟩ prog_8_method_15_code 1 (some FieldType.int) 0 := ⟨w656, w3, by decide, by decide, by decide +kernel⟩
theorem cd_Mo_number : hv_cd ⟨"BoxPackerModel", "number", "(II)I"⟩ prog_8_method_16_code 3 (some FieldType.int) 2 := ⟨w668, w3, by decide, by decide, by decide +kernel⟩
theorem cd_Mo_solid : hv_cd ⟨"BoxPackerModel", "solid", "(II)I"⟩ prog_8_method_17_code 4 (some FieldType.int) 2 := ⟨w696, w3, by decide, by decide, by decide +kernel⟩
theorem cd_Mo_isSolid : hv_cd ⟨"BoxPackerModel", "isSolid", "(I)Z"⟩ prog_8_method_18_code 2 (some FieldType.boolean) 1 := ⟨w680, w3, by decide, by decide, by decide +kernel⟩
theorem cd_Mo_sizeOf : hv_cd ⟨"BoxPackerModel", "sizeOf", "(II)I"⟩ prog_8_method_19_code 4 (some FieldType.int) 2 := ⟨w692, w3, by decide, by decide, by decide +kernel⟩
theorem cd_Mo_grow : hv_cd ⟨"BoxPackerModel", "grow", "(J)V"⟩ prog_8_method_20_code 3 none 1 := ⟨w688, w3, by decide, by decide, by decide +kernel⟩
theorem cd_Mo_greater : hv_cd ⟨"BoxPackerModel", "greater", "(JJ)J"⟩ prog_8_method_21_code 5 (some FieldType.long) 2 := ⟨w700, w3, by decide, by decide, by decide +kernel⟩
theorem cd_Mo_clear : hv_cd ⟨"BoxPackerModel", "clear", "()V"⟩ prog_8_method_22_code 2 none 0 := ⟨w672, w3, by decide, by decide, by decide +kernel⟩
theorem cd_Mo_addSolid : hv_cd ⟨"BoxPackerModel", "addSolid", "(IZ)V"⟩ prog_8_method_23_code 4 none 2 := ⟨w684, w3, by decide, by decide, by decide +kernel⟩
theorem cd_Mo_add : hv_cd ⟨"BoxPackerModel", "add", "(IZ)V"⟩ prog_8_method_24_code 5 none 2 := ⟨w676, w3, by decide, by decide, by decide +kernel⟩
theorem cd_Mo_badnessOf : hv_cd ⟨"BoxPackerModel", "badnessOf", "(JJ)I"⟩ prog_8_method_25_code 6 (some FieldType.int) 2 := ⟨w708, w3, by decide, by decide, by decide +kernel⟩
theorem cd_Mo_deepest : hv_cd ⟨"BoxPackerModel", "deepest", "()I"⟩ prog_8_method_26_code 4 (some FieldType.int) 0 := ⟨w664, w3, by decide, by decide, by decide +kernel⟩
theorem cd_Mo_countAll : hv_cd ⟨"BoxPackerModel", "countAll", "()I"⟩ prog_8_method_27_code 4 (some FieldType.int) 0 := ⟨w718, w3, by decide, by decide, by decide +kernel⟩
theorem cd_Mo_setGlue : hv_cd ⟨"BoxPackerModel", "setGlue", "(IJ)V"⟩ prog_8_method_28_code 7 none 2 := ⟨w704, w3, by decide, by decide, by decide +kernel⟩
theorem cd_Mo_pack : hv_cd ⟨"BoxPackerModel", "pack", "(ZIII)I"⟩ prog_8_method_29_code 8 (some FieldType.int) 4 := ⟨w660, w3, by decide, by decide, by decide +kernel⟩
theorem cd_Mo_boxes : hv_cd ⟨"BoxPackerModel", "boxes", "()I"⟩ prog_8_method_30_code 1 (some FieldType.int) 0 := ⟨w723, w3, by decide, by decide, by decide +kernel⟩
theorem cd_Mo_of : hv_cd ⟨"BoxPackerModel", "of", "(II)I"⟩ prog_8_method_31_code 3 (some FieldType.int) 2 := ⟨w727, w3, by decide, by decide, by decide +kernel⟩
theorem cd_Mo_nearest : hv_cd ⟨"BoxPackerModel", "nearest", "(JJ)J"⟩ prog_8_method_32_code 8 (some FieldType.long) 2 := ⟨w738, w3, by decide, by decide, by decide +kernel⟩
theorem cd_Mo_placeOf : hv_cd ⟨"BoxPackerModel", "placeOf", "(II)J"⟩ prog_8_method_33_code 10 (some FieldType.long) 2 := ⟨w735, w3, by decide, by decide, by decide +kernel⟩
theorem cd_Mo_place : hv_cd ⟨"BoxPackerModel", "place", "(II)I"⟩ prog_8_method_34_code 3 (some FieldType.int) 2 := ⟨w731, w3, by decide, by decide, by decide +kernel⟩
theorem cd_Mo_note : hv_cd ⟨"BoxPackerModel", "note", "(IJJJJJ)Z"⟩ prog_8_method_35_code 12 (some FieldType.boolean) 6 := ⟨w750, w3, by decide, by decide, by decide +kernel⟩
theorem cd_Mo_ruled : hv_cd ⟨"BoxPackerModel", "ruled", "(III)J"⟩ prog_8_method_36_code 4 (some FieldType.long) 3 := ⟨w754, w3, by decide, by decide, by decide +kernel⟩
theorem cd_Mo_layBox : hv_cd ⟨"BoxPackerModel", "layBox", "(IJJ)Z"⟩ prog_8_method_37_code 20 (some FieldType.boolean) 3 := ⟨w746, w3, by decide, by decide, by decide +kernel⟩
theorem cd_Mo_lay : hv_cd ⟨"BoxPackerModel", "lay", "(III)I"⟩ prog_8_method_38_code 4 (some FieldType.int) 3 := ⟨w742, w3, by decide, by decide, by decide +kernel⟩
theorem cd_Mo_mark : hv_cd ⟨"BoxPackerModel", "mark", "(II)J"⟩ prog_8_method_39_code 3 (some FieldType.long) 2 := ⟨w758, w3, by decide, by decide, by decide +kernel⟩
theorem cd_Box_init : hv_cd y_Box_init b_Box_init 9 none 3 := ⟨w318, w13, by decide, by decide, by decide +kernel⟩
theorem cd_Box_fit : hv_cd y_Box_fit b_Box_fit 6 none 3 := ⟨w383, w13, by decide, by decide, by decide +kernel⟩
theorem cd_Box_measureAlong : hv_cd y_Box_measureAlong b_Box_measureAlong 5 none 0 := ⟨w417, w13, by decide, by decide, by decide +kernel⟩
theorem cd_Box_measureBelow : hv_cd y_Box_measureBelow b_Box_measureBelow 6 none 1 := ⟨w387, w13, by decide, by decide, by decide +kernel⟩
theorem cd_Box_gives : hv_cd y_Box_gives b_Box_gives 6 (some (FieldType.array FieldType.int)) 1 := ⟨w421, w13, by decide, by decide, by decide +kernel⟩
theorem cd_Box_fillUp : hv_cd y_Box_fillUp b_Box_fillUp 5 none 2 := ⟨w433, w13, by decide, by decide, by decide +kernel⟩
theorem cd_Box_findTotal : hv_cd y_Box_findTotal b_Box_findTotal 3 none 1 := ⟨w437, w13, by decide, by decide, by decide +kernel⟩
theorem cd_Box_addShares : hv_cd y_Box_addShares b_Box_addShares 9 none 0 := ⟨w441, w13, by decide, by decide, by decide +kernel⟩
theorem cd_Box_badness : hv_cd y_Box_badness b_Box_badness 2 (some FieldType.int) 0 := ⟨w456, w13, by decide, by decide, by decide +kernel⟩
theorem cd_Box_badnessRatio : hv_cd y_Box_badnessRatio b_Box_badnessRatio 2 (some FieldType.int) 2 := ⟨w462, w13, by decide, by decide, by decide +kernel⟩
theorem cd_Item_init : hv_cd y_Item_init b_Item_init 1 none 0 := ⟨w184, w9, by decide, by decide, by decide +kernel⟩
theorem cd_Marks_init : hv_cd y_Marks_init b_Marks_init 1 none 0 := ⟨w32, w2, by decide, by decide, by decide +kernel⟩
theorem cd_Marks_clear : hv_cd y_Marks_clear b_Marks_clear 1 none 0 := ⟨w487, w2, by decide, by decide, by decide +kernel⟩
theorem cd_Marks_add : hv_cd y_Marks_add b_Marks_add 10 (some FieldType.boolean) 6 := ⟨w500, w2, by decide, by decide, by decide +kernel⟩
theorem cd_Solid_init : hv_cd y_Solid_init b_Solid_init 7 none 6 := ⟨w181, w10, by decide, by decide, by decide +kernel⟩
theorem cd_Space_init : hv_cd y_Space_init b_Space_init 6 none 5 := ⟨w249, w11, by decide, by decide, by decide +kernel⟩
theorem cd_Space_give : hv_cd y_Space_give b_Space_give 2 (some FieldType.int) 1 := ⟨w429, w11, by decide, by decide, by decide +kernel⟩
theorem cd_Space_giveOrder : hv_cd y_Space_giveOrder b_Space_giveOrder 2 (some FieldType.int) 1 := ⟨w425, w11, by decide, by decide, by decide +kernel⟩
end
section
/-! ===== calls that only answer ===== -/
abbrev PV (f : hv_M) (v0 : Option Value) : Option Value → hv_M → Prop := fun v g => v = v0 ∧ g = f
abbrev NX : String → hv_M → Prop := fun _ _ => False
/-- one kind of exception, nothing changed -/
abbrev TX1 (E0 : String) (f : hv_M) (cond : Prop) : String → hv_M → Prop := fun E g => E = E0 ∧ g = f ∧ cond
section HVD
variable {p : Program} {l : Launch} {e : Env} {R : Room} {s : State} {m : MethodId} {args : Array Value} {below : List Frame} {meth : Method} {c : Code} {H : Heap} {locs : List Loc} {cells slots : Nat} {Q : State → Prop}
variable {cc bytes : ByteArray} {pc nL maxL n index : Nat} {ls : Array Slot} {rest : List Value} {D : va_G} {cA : Nat → ClassId} {b0 : Nat} {f : hv_M} {v0 : Option Value} {own host C : String} {y : MethodName} {ret : Option FieldType} {rm : Room} {As : List Value} {b ci : Nat} {fs : List Value} {r : vw_C}
theorem hv_Sp (hE : hv_E p c cc s m args own TS D CL (TY cA)) (hml : c.maxLocals = nL) (hK : hv_KK b0 (Fa D cA) s) (hI : hv_I D CL b0 f s.heap H locs) (hM : hv_Met l y [Cond.code y bytes maxL ret] rm b0 (Fa D cA) D CL As f (PV f v0) NX) (cd : hv_cd y bytes maxL ret n) (hlink : Cond.methodLink own index y ∈ TS) (hstat : Cond.static y ∈ TS)
    (hc0 : rm.cells = 0) (hs0 : rm.slots = 0) (hn : As.length = n) (hsize : ls.size = nL) (hW9 : (rest.map fun v => v.category).sum ≤ 8) (hdg : decode cc pc = .ok (.invokestatic index, 3)) (hR : rm.frames + 1 ≤ R.frames ∧ 8 + (maxL + 11) + rm.locals ≤ R.locals) (hf : cells ≤ R.cells ∧ slots ≤ R.slots)
    (kr : ∀ (H1 : Heap) (locs1 : List Loc), hv_I D CL b0 f s.heap H1 locs1 → W p l e R s m args below meth c H1 locs1 cells slots Q (F0 m (pc + 3) ls (v0.toList ++ rest))) :
    W p l e R s m args below meth c H locs cells slots Q (F0 m pc ls (As.reverse ++ rest)) := by
  refine hv_S hE hml hK hI hM cd hlink hstat hn hsize hW9 hdg hR (by rw [hc0, hs0]; exact hf) (fun v g H1 locs1 hp hI1 => ?_) (fun q E ce g H1 locs1 hp => hp.elim)
  obtain ⟨hv, hg⟩ := hp
  rw [hg] at hI1
  rw [hc0, hs0, hv]
  exact kr H1 locs1 hI1
theorem hv_SNp (hE : hv_E p c cc s m args own TS D CL (TY cA)) (hml : c.maxLocals = nL) (hK : hv_KK b0 (Fa D cA) s) (hI : hv_I D CL b0 f s.heap H locs) (hM : hv_Met l y [Cond.code y bytes maxL ret] rm b0 (Fa D cA) D CL As f (PV f v0) NX) (cd : hv_cd y bytes maxL ret n) (hlink : Cond.methodLinkNest own index y host ∈ TS) (hstat : Cond.static y ∈ TS)
    (hc0 : rm.cells = 0) (hs0 : rm.slots = 0) (hn : As.length = n) (hsize : ls.size = nL) (hW9 : (rest.map fun v => v.category).sum ≤ 8) (hdg : decode cc pc = .ok (.invokestatic index, 3)) (hR : rm.frames + 1 ≤ R.frames ∧ 8 + (maxL + 11) + rm.locals ≤ R.locals) (hf : cells ≤ R.cells ∧ slots ≤ R.slots)
    (kr : ∀ (H1 : Heap) (locs1 : List Loc), hv_I D CL b0 f s.heap H1 locs1 → W p l e R s m args below meth c H1 locs1 cells slots Q (F0 m (pc + 3) ls (v0.toList ++ rest))) :
    W p l e R s m args below meth c H locs cells slots Q (F0 m pc ls (As.reverse ++ rest)) := by
  refine hv_SN hE hml hK hI hM cd hlink hstat hn hsize hW9 hdg hR (by rw [hc0, hs0]; exact hf) (fun v g H1 locs1 hp hI1 => ?_) (fun q E ce g H1 locs1 hp => hp.elim)
  obtain ⟨hv, hg⟩ := hp
  rw [hg] at hI1
  rw [hc0, hs0, hv]
  exact kr H1 locs1 hI1
theorem hv_Vp (hE : hv_E p c cc s m args own TS D CL (TY cA)) (hml : c.maxLocals = nL) (hK : hv_KK b0 (Fa D cA) s) (hI : hv_I D CL b0 f s.heap H locs) (hM : hv_Met l y [Cond.code y bytes maxL ret] rm b0 (Fa D cA) D CL (.ref b :: As) f (PV f v0) NX) (cd : hv_cd y bytes maxL ret n) (hlink : Cond.methodLink own index y ∈ TS) (hinst : Cond.instanceMethod y ∈ TS) (hsel : Cond.selects r.1 y y ∈ TS) (he : f b = some (.inr (ci, fs))) (hc : CL[ci]? = some r)
    (hc0 : rm.cells = 0) (hs0 : rm.slots = 0) (hn : As.length = n) (hsize : ls.size = nL) (hW9 : (rest.map fun v => v.category).sum ≤ 8) (hdg : decode cc pc = .ok (.invokevirtual index, 3)) (hR : rm.frames + 1 ≤ R.frames ∧ 8 + (maxL + 11) + rm.locals ≤ R.locals) (hf : cells ≤ R.cells ∧ slots ≤ R.slots)
    (kr : ∀ (H1 : Heap) (locs1 : List Loc), hv_I D CL b0 f s.heap H1 locs1 → W p l e R s m args below meth c H1 locs1 cells slots Q (F0 m (pc + 3) ls (v0.toList ++ rest))) :
    W p l e R s m args below meth c H locs cells slots Q (F0 m pc ls (As.reverse ++ .ref b :: rest)) := by
  refine hv_V hE hml hK hI hM cd hlink hinst hsel he hc hn hsize hW9 hdg hR (by rw [hc0, hs0]; exact hf) (fun v g H1 locs1 hp hI1 => ?_) (fun q E ce g H1 locs1 hp => hp.elim)
  obtain ⟨hv, hg⟩ := hp
  rw [hg] at hI1
  rw [hc0, hs0, hv]
  exact kr H1 locs1 hI1
theorem hv_VNp (hE : hv_E p c cc s m args own TS D CL (TY cA)) (hml : c.maxLocals = nL) (hK : hv_KK b0 (Fa D cA) s) (hI : hv_I D CL b0 f s.heap H locs) (hM : hv_Met l y [Cond.code y bytes maxL ret] rm b0 (Fa D cA) D CL (.ref b :: As) f (PV f v0) NX) (cd : hv_cd y bytes maxL ret n) (hlink : Cond.methodLinkNest own index y host ∈ TS) (hinst : Cond.instanceMethod y ∈ TS) (hsel : Cond.selects r.1 y y ∈ TS) (he : f b = some (.inr (ci, fs))) (hc : CL[ci]? = some r)
    (hc0 : rm.cells = 0) (hs0 : rm.slots = 0) (hn : As.length = n) (hsize : ls.size = nL) (hW9 : (rest.map fun v => v.category).sum ≤ 8) (hdg : decode cc pc = .ok (.invokevirtual index, 3)) (hR : rm.frames + 1 ≤ R.frames ∧ 8 + (maxL + 11) + rm.locals ≤ R.locals) (hf : cells ≤ R.cells ∧ slots ≤ R.slots)
    (kr : ∀ (H1 : Heap) (locs1 : List Loc), hv_I D CL b0 f s.heap H1 locs1 → W p l e R s m args below meth c H1 locs1 cells slots Q (F0 m (pc + 3) ls (v0.toList ++ rest))) :
    W p l e R s m args below meth c H locs cells slots Q (F0 m pc ls (As.reverse ++ .ref b :: rest)) := by
  refine hv_VN hE hml hK hI hM cd hlink hinst hsel he hc hn hsize hW9 hdg hR (by rw [hc0, hs0]; exact hf) (fun v g H1 locs1 hp hI1 => ?_) (fun q E ce g H1 locs1 hp => hp.elim)
  obtain ⟨hv, hg⟩ := hp
  rw [hg] at hI1
  rw [hc0, hs0, hv]
  exact kr H1 locs1 hI1
end HVD
/-! ===== numbers ===== -/
def b2i (b : Bool) : Int32 := if b = true then 1 else 0
theorem b2i_nar (b : Bool) : narrow .boolean (.int (b2i b)) = .int (b2i b) := by cases b <;> rfl
theorem b2i_ne {b : Bool} : b2i b = 0 ↔ b = false := by cases b <;> decide
def sz (x : Int64) : Bool := decide (-1073741823 ≤ x) && decide (x ≤ 1073741823)
def szr (x : Int32) : Bool := decide (x = -1073741824) || sz x.toInt64
def ord4 (x : Int32) : Bool := decide (0 ≤ x) && decide (x < 4)
def kn (x r : Int32) : Int32 := if x = -1073741824 then r else x
theorem hv_ne {f : hv_M} {a b : Nat} {x y : va_E} (ha : f a = some x) (hb : f b = some y) (h : x ≠ y) : a ≠ b := fun q => by
  subst q
  exact h (Option.some.inj (ha.symm.trans hb))
theorem hv_nn {f : hv_M} {a b : Nat} {x : va_E} (ha : f a = some x) (hb : f b = none) : a ≠ b := fun q => by
  subst q
  rw [hb] at ha
  cases ha
theorem hv_up_up (f : hv_M) (a : Nat) (x y : va_E) : hv_up (hv_up f a x) a y = hv_up f a y := by
  funext z
  simp only [hv_up]
  by_cases h : z = a <;> simp [h]
theorem nI_cl {n : Nat} (h : n < 2 ^ 31) : (nI n).toNatClampNeg = n := nI_clamp h
theorem nI_lt100 {n : Nat} (h : n < 2 ^ 31) : nI n < 100 ↔ n < 100 := nI_ltI (b := 100) h (by decide)
/-! ===== the words of the four throws ===== -/
abbrev NMS : List String := ["java/lang/RuntimeException", "java/lang/Exception"]
theorem tw_of {L : List Cond} (h : ∀ w ∈ L, (w ∈ lw_tbl ∧ hv_st w = true) ∨ w ∈ TX) : ∀ w ∈ L, w ∈ TS ∨ w ∈ TX := fun w hw => (h w hw).elim (fun q => Or.inl (List.mem_filter.mpr q)) Or.inr
set_option maxRecDepth 100000 in
theorem tw_IAE : ∀ w ∈ Cond.classLink "BoxPacker" 36 "java/lang/IllegalArgumentException" :: Cond.initialized "java/lang/IllegalArgumentException" :: Bundle.ownAtoms "BoxPacker" 40 "java/lang/IllegalArgumentException" NMS, w ∈ TS ∨ w ∈ TX := tw_of (by decide +kernel)
set_option maxRecDepth 100000 in
theorem tw_UOE : ∀ w ∈ Cond.classLink "BoxPacker" 100 "java/lang/UnsupportedOperationException" :: Cond.initialized "java/lang/UnsupportedOperationException" :: Bundle.ownAtoms "BoxPacker" 104 "java/lang/UnsupportedOperationException" NMS, w ∈ TS ∨ w ∈ TX := tw_of (by decide +kernel)
set_option maxRecDepth 100000 in
theorem tw_IOB : ∀ w ∈ Cond.classLink "BoxPacker" 139 "java/lang/IndexOutOfBoundsException" :: Cond.initialized "java/lang/IndexOutOfBoundsException" :: Bundle.ownAtoms "BoxPacker" 143 "java/lang/IndexOutOfBoundsException" NMS, w ∈ TS ∨ w ∈ TX := tw_of (by decide +kernel)
set_option maxRecDepth 100000 in
theorem tw_ISE : ∀ w ∈ Cond.classLink "BoxPacker" 211 "java/lang/IllegalStateException" :: Cond.initialized "java/lang/IllegalStateException" :: Bundle.ownAtoms "BoxPacker" 215 "java/lang/IllegalStateException" NMS, w ∈ TS ∨ w ∈ TX := tw_of (by decide +kernel)
end
section
set_option maxHeartbeats 4000000 in
set_option maxRecDepth 100000 in
/-- isSize -/
theorem c_BP_isSize (l : Launch) (hl0 : l.stackTraces = false) (b0 : Nat) (D : va_G) (cA : Nat → ClassId) (f : hv_M) (x : Int64)  : hv_Met l y_BP_isSize [Cond.code y_BP_isSize b_BP_isSize 2 (some FieldType.boolean)] (RM 0 0 0) b0 (Fa D cA) D CL [.long x] f (PV f (some (.int (b2i (sz x))))) (NX) := by
  refine hv_Met.of (own := "BoxPacker") (by decide) rfl (Nat.le_of_ble_eq_true rfl) ?_
  intro p e s m below meth c hE hml hout hr hlocks hname hK hI ls hl
  have hl : lv_has ls 2 [(0, .long x)] := hl
  obtain ⟨hx, hb, hown, hts, hVK⟩ := id hE
  refine lv_lload_n hx hb d_BP_isSize_0 rfl (lv_at hl 0 rfl) ?_
  refine lv_ldc2 (v := (-1073741823)) hx hb hown (hts _ w154) d_BP_isSize_1 ?_
  refine W.lcmp hx hb d_BP_isSize_4 ?_
  refine lv_if_lt (tgt := 20) hx hb d_BP_isSize_5 (by decide) (fun c5 => ?_) (fun c5 => ?_)
  · skip
    refine lv_iconst (v := 0) hx hb d_BP_isSize_20 (by decide) ?_
    exact hv_zret hE hr hlocks hI hK (v := 0) (by first | rfl | exact b2i_nar _) (⟨by simp only [lg_cmp_lt, lg_cmp_gt, lg_cmp_le, lg_cmp_ge] at c5; first | (simp [b2i, sz, *]; done) | (simp [b2i, sz, *]; intro h9; exact absurd h9 (Int64.not_le.mpr (by assumption))), rfl⟩) (by decide) (by decide) d_BP_isSize_21
  · skip
    refine lv_lload_n hx hb d_BP_isSize_8 rfl (lv_at hl 0 rfl) ?_
    refine lv_ldc2 (v := 1073741823) hx hb hown (hts _ w155) d_BP_isSize_9 ?_
    refine W.lcmp hx hb d_BP_isSize_12 ?_
    refine lv_if_gt (tgt := 20) hx hb d_BP_isSize_13 (by decide) (fun c13 => ?_) (fun c13 => ?_)
    · skip
      refine lv_iconst (v := 0) hx hb d_BP_isSize_20 (by decide) ?_
      exact hv_zret hE hr hlocks hI hK (v := 0) (by first | rfl | exact b2i_nar _) (⟨by simp only [lg_cmp_lt, lg_cmp_gt, lg_cmp_le, lg_cmp_ge] at c5 c13; first | (simp [b2i, sz, *]; done) | (simp [b2i, sz, *]; intro h9; exact absurd h9 (Int64.not_le.mpr (by assumption))), rfl⟩) (by decide) (by decide) d_BP_isSize_21
    · skip
      refine lv_iconst (v := 1) hx hb d_BP_isSize_16 (by decide) ?_
      refine lv_goto (tgt := 21) hx hb d_BP_isSize_17 (by decide) ?_
      exact hv_zret hE hr hlocks hI hK (v := 1) (by first | rfl | exact b2i_nar _) (⟨by simp only [lg_cmp_lt, lg_cmp_gt, lg_cmp_le, lg_cmp_ge] at c5 c13; first | (simp [b2i, sz, *]; done) | (simp [b2i, sz, *]; intro h9; exact absurd h9 (Int64.not_le.mpr (by assumption))), rfl⟩) (by decide) (by decide) d_BP_isSize_21

set_option maxHeartbeats 4000000 in
set_option maxRecDepth 100000 in
/-- isSizeOrRunning -/
theorem c_BP_isSizeOrRunning (l : Launch) (hl0 : l.stackTraces = false) (b0 : Nat) (D : va_G) (cA : Nat → ClassId) (f : hv_M) (x : Int32)  : hv_Met l y_BP_isSizeOrRunning [Cond.code y_BP_isSizeOrRunning b_BP_isSizeOrRunning 1 (some FieldType.boolean)] (RM 1 0 0) b0 (Fa D cA) D CL [.int x] f (PV f (some (.int (b2i (szr x))))) (NX) := by
  refine hv_Met.of (own := "BoxPacker") (by decide) rfl (Nat.le_of_ble_eq_true rfl) ?_
  intro p e s m below meth c hE hml hout hr hlocks hname hK hI ls hl
  have hl : lv_has ls 1 [(0, .int x)] := hl
  obtain ⟨hx, hb, hown, hts, hVK⟩ := id hE
  refine lv_iload_n hx hb d_BP_isSizeOrRunning_0 rfl (lv_at hl 0 rfl) ?_
  refine lv_ldc (v := (-1073741824)) hx hb hown (hts _ w230) d_BP_isSizeOrRunning_1 ?_
  refine lv_icmp_eq (tgt := 14) hx hb d_BP_isSizeOrRunning_3 (by decide) (fun c3 => ?_) (fun c3 => ?_)
  · skip
    refine lv_iconst (v := 1) hx hb d_BP_isSizeOrRunning_14 (by decide) ?_
    refine lv_goto (tgt := 19) hx hb d_BP_isSizeOrRunning_15 (by decide) ?_
    exact hv_zret hE hr hlocks hI hK (v := 1) (by first | rfl | exact b2i_nar _) (⟨by simp [b2i, szr, *], rfl⟩) (by decide) (by decide) d_BP_isSizeOrRunning_19
  · skip
    refine lv_iload_n hx hb d_BP_isSizeOrRunning_6 rfl (lv_at hl 0 rfl) ?_
    refine lv_i2l (v := x.toInt64) hx hb d_BP_isSizeOrRunning_7 rfl ?_
    refine hv_Sp (As := [.long x.toInt64]) (rest := []) hE hml hK hI (c_BP_isSize l hl0 b0 D cA f x.toInt64) cd_BP_isSize w151 w152 rfl rfl rfl hl.1 (Nat.le_of_ble_eq_true rfl) d_BP_isSizeOrRunning_8 ⟨by decide, by decide⟩ ⟨by decide, by decide⟩ (fun H locs hI => ?_)
    refine W.eq (g2 := F0 m 11 ls [.int (b2i (sz x.toInt64))]) rfl ?_
    refine lv_if_eq (tgt := 18) hx hb d_BP_isSizeOrRunning_11 (by decide) (fun c11 => ?_) (fun c11 => ?_)
    · skip
      refine lv_iconst (v := 0) hx hb d_BP_isSizeOrRunning_18 (by decide) ?_
      exact hv_zret hE hr hlocks hI hK (v := 0) (by first | rfl | exact b2i_nar _) (⟨by have q11 := c11; simp only [b2i_ne] at q11; simp [b2i, szr, *], rfl⟩) (by decide) (by decide) d_BP_isSizeOrRunning_19
    · skip
      refine lv_iconst (v := 1) hx hb d_BP_isSizeOrRunning_14 (by decide) ?_
      refine lv_goto (tgt := 19) hx hb d_BP_isSizeOrRunning_15 (by decide) ?_
      exact hv_zret hE hr hlocks hI hK (v := 1) (by first | rfl | exact b2i_nar _) (⟨by have q11 := c11; simp only [b2i_ne] at q11; simp [b2i, szr, *], rfl⟩) (by decide) (by decide) d_BP_isSizeOrRunning_19

set_option maxHeartbeats 4000000 in
set_option maxRecDepth 100000 in
/-- isOrder -/
theorem c_BP_isOrder (l : Launch) (hl0 : l.stackTraces = false) (b0 : Nat) (D : va_G) (cA : Nat → ClassId) (f : hv_M) (x : Int32)  : hv_Met l y_BP_isOrder [Cond.code y_BP_isOrder b_BP_isOrder 1 (some FieldType.boolean)] (RM 0 0 0) b0 (Fa D cA) D CL [.int x] f (PV f (some (.int (b2i (ord4 x))))) (NX) := by
  refine hv_Met.of (own := "BoxPacker") (by decide) rfl (Nat.le_of_ble_eq_true rfl) ?_
  intro p e s m below meth c hE hml hout hr hlocks hname hK hI ls hl
  have hl : lv_has ls 1 [(0, .int x)] := hl
  obtain ⟨hx, hb, hown, hts, hVK⟩ := id hE
  refine lv_iload_n hx hb d_BP_isOrder_0 rfl (lv_at hl 0 rfl) ?_
  refine lv_if_lt (tgt := 13) hx hb d_BP_isOrder_1 (by decide) (fun c1 => ?_) (fun c1 => ?_)
  · skip
    refine lv_iconst (v := 0) hx hb d_BP_isOrder_13 (by decide) ?_
    exact hv_zret hE hr hlocks hI hK (v := 0) (by first | rfl | exact b2i_nar _) (⟨by first | (simp [b2i, ord4, Int32.not_lt, Int32.not_le, *]; done) | (simp [b2i, ord4, Int32.not_lt, Int32.not_le, *]; intro h9; exact absurd h9 (Int32.not_le.mpr (by assumption))), rfl⟩) (by decide) (by decide) d_BP_isOrder_14
  · skip
    refine lv_iload_n hx hb d_BP_isOrder_4 rfl (lv_at hl 0 rfl) ?_
    refine lv_iconst (v := 4) hx hb d_BP_isOrder_5 (by decide) ?_
    refine lv_icmp_ge (tgt := 13) hx hb d_BP_isOrder_6 (by decide) (fun c6 => ?_) (fun c6 => ?_)
    · skip
      refine lv_iconst (v := 0) hx hb d_BP_isOrder_13 (by decide) ?_
      exact hv_zret hE hr hlocks hI hK (v := 0) (by first | rfl | exact b2i_nar _) (⟨by first | (simp [b2i, ord4, Int32.not_lt, Int32.not_le, *]; done) | (simp [b2i, ord4, Int32.not_lt, Int32.not_le, *]; intro h9; exact absurd h9 (Int32.not_le.mpr (by assumption))), rfl⟩) (by decide) (by decide) d_BP_isOrder_14
    · skip
      refine lv_iconst (v := 1) hx hb d_BP_isOrder_9 (by decide) ?_
      refine lv_goto (tgt := 14) hx hb d_BP_isOrder_10 (by decide) ?_
      exact hv_zret hE hr hlocks hI hK (v := 1) (by first | rfl | exact b2i_nar _) (⟨by first | (simp [b2i, ord4, Int32.not_lt, Int32.not_le, *]; done) | (simp [b2i, ord4, Int32.not_lt, Int32.not_le, *]; intro h9; exact absurd h9 (Int32.not_le.mpr (by assumption))), rfl⟩) (by decide) (by decide) d_BP_isOrder_14

set_option maxHeartbeats 4000000 in
set_option maxRecDepth 100000 in
/-- known -/
theorem c_BP_known2 (l : Launch) (hl0 : l.stackTraces = false) (b0 : Nat) (D : va_G) (cA : Nat → ClassId) (f : hv_M) (x r : Int32)  : hv_Met l y_BP_known2 [Cond.code y_BP_known2 b_BP_known2 2 (some FieldType.int)] (RM 0 0 0) b0 (Fa D cA) D CL [.int x, .int r] f (PV f (some (.int (kn x r)))) (NX) := by
  refine hv_Met.of (own := "BoxPacker") (by decide) rfl (Nat.le_of_ble_eq_true rfl) ?_
  intro p e s m below meth c hE hml hout hr hlocks hname hK hI ls hl
  have hl : lv_has ls 2 [(0, .int x), (1, .int r)] := hl
  obtain ⟨hx, hb, hown, hts, hVK⟩ := id hE
  refine lv_iload_n hx hb d_BP_known2_0 rfl (lv_at hl 0 rfl) ?_
  refine lv_ldc (v := (-1073741824)) hx hb hown (hts _ w230) d_BP_known2_1 ?_
  refine lv_icmp_ne (tgt := 10) hx hb d_BP_known2_3 (by decide) (fun c3 => ?_) (fun c3 => ?_)
  · skip
    refine lv_iload_n hx hb d_BP_known2_10 rfl (lv_at hl 0 rfl) ?_
    exact hv_iret hE hr hlocks hI hK (v := x) (⟨by simp [kn, *], rfl⟩) (by decide) (by decide) d_BP_known2_11
  · skip
    refine lv_iload_n hx hb d_BP_known2_6 rfl (lv_at hl 1 rfl) ?_
    refine lv_goto (tgt := 11) hx hb d_BP_known2_7 (by decide) ?_
    exact hv_iret hE hr hlocks hI hK (v := r) (⟨by simp [kn, *], rfl⟩) (by decide) (by decide) d_BP_known2_11

set_option maxHeartbeats 4000000 in
set_option maxRecDepth 100000 in
/-- known -/
theorem c_BP_known1 (l : Launch) (hl0 : l.stackTraces = false) (b0 : Nat) (D : va_G) (cA : Nat → ClassId) (f : hv_M) (x : Int32)  : hv_Met l y_BP_known1 [Cond.code y_BP_known1 b_BP_known1 1 (some FieldType.int)] (RM 1 0 0) b0 (Fa D cA) D CL [.int x] f (PV f (some (.int (kn x 0)))) (NX) := by
  refine hv_Met.of (own := "BoxPacker") (by decide) rfl (Nat.le_of_ble_eq_true rfl) ?_
  intro p e s m below meth c hE hml hout hr hlocks hname hK hI ls hl
  have hl : lv_has ls 1 [(0, .int x)] := hl
  obtain ⟨hx, hb, hown, hts, hVK⟩ := id hE
  refine lv_iload_n hx hb d_BP_known1_0 rfl (lv_at hl 0 rfl) ?_
  refine lv_iconst (v := 0) hx hb d_BP_known1_1 (by decide) ?_
  refine hv_Sp (As := [.int x, .int 0]) (rest := []) hE hml hK hI (c_BP_known2 l hl0 b0 D cA f x 0) cd_BP_known2 w410 w411 rfl rfl rfl hl.1 (Nat.le_of_ble_eq_true rfl) d_BP_known1_2 ⟨by decide, by decide⟩ ⟨by decide, by decide⟩ (fun H locs hI => ?_)
  refine W.eq (g2 := F0 m 5 ls [.int (kn x 0)]) rfl ?_
  exact hv_iret hE hr hlocks hI hK (v := kn x 0) (⟨rfl, rfl⟩) (by decide) (by decide) d_BP_known1_5

set_option maxHeartbeats 4000000 in
set_option maxRecDepth 100000 in
/-- sum -/
theorem c_BP_sum (l : Launch) (hl0 : l.stackTraces = false) (b0 : Nat) (D : va_G) (cA : Nat → ClassId) (f : hv_M) (x y : Int64)  : hv_Met l y_BP_sum [Cond.code y_BP_sum b_BP_sum 6 (some FieldType.int)] (RM 1 1 6) b0 (Fa D cA) D CL [.long x, .long y] f (fun v g => v = some (.int (x + y).toInt32) ∧ g = f ∧ sz (x + y) = true) (TX1 "java/lang/IllegalStateException" f (sz (x + y) = false)) := by
  refine hv_Met.of (own := "BoxPacker") (by decide) rfl (Nat.le_of_ble_eq_true rfl) ?_
  intro p e s m below meth c hE hml hout hr hlocks hname hK hI ls hl
  have hl : lv_has ls 6 [(0, .long x), (2, .long y)] := hl
  obtain ⟨hx, hb, hown, hts, hVK⟩ := id hE
  refine lv_lload_n hx hb d_BP_sum_0 rfl (lv_at hl 0 rfl) ?_
  refine lv_lload_n hx hb d_BP_sum_1 rfl (lv_at hl 1 rfl) ?_
  refine lv_ladd hx hb d_BP_sum_2 ?_
  refine lv_lstore (lv' := [(4, .long (x + y)), (0, .long x), (2, .long y)]) hx hb d_BP_sum_3 hl (by decide) rfl (fun ls hl => ?_)
  refine lv_lload hx hb d_BP_sum_5 (lv_at hl 0 rfl) ?_
  refine hv_Sp (As := [.long (x + y)]) (rest := []) hE hml hK hI (c_BP_isSize l hl0 b0 D cA f (x + y)) cd_BP_isSize w151 w152 rfl rfl rfl hl.1 (Nat.le_of_ble_eq_true rfl) d_BP_sum_7 ⟨by decide, by decide⟩ ⟨by decide, by decide⟩ (fun H locs hI => ?_)
  refine W.eq (g2 := F0 m 10 ls [.int (b2i (sz (x + y)))]) rfl ?_
  refine lv_if_ne (tgt := 23) hx hb d_BP_sum_10 (by decide) (fun c10 => ?_) (fun c10 => ?_)
  · skip
    refine lv_lload hx hb d_BP_sum_23 (lv_at hl 0 rfl) ?_
    refine lv_l2i (v := (x + y).toInt32) hx hb d_BP_sum_25 rfl ?_
    exact hv_iret hE hr hlocks hI hK (v := (x + y).toInt32) (⟨rfl, rfl, by cases hz : sz (x + y) with | true => rfl | false => exact absurd (by rw [hz]; rfl) c10⟩) (by decide) (by decide) d_BP_sum_26
  · skip
    exact hv_throw hE hl0 (cls := "java/lang/IllegalStateException") (text := "a sum of sizes is no size") (names := NMS) (by decide) (by decide) hI hK (hv_thr tw_ISE (by decide)) (by rw [hml]; exact hl.1) d_BP_sum_13 d_BP_sum_16 d_BP_sum_17 d_BP_sum_19 d_BP_sum_22 hout (by decide) (by decide) hlocks (⟨rfl, rfl, by simpa [b2i_ne] using c10⟩) (by decide) (by decide) (by decide) (by decide)
end
section
set_option maxHeartbeats 4000000 in
set_option maxRecDepth 100000 in
theorem c_BP_refuseWhenFull (l : Launch) (hl0 : l.stackTraces = false) (b0 : Nat) (D : va_G) (cA : Nat → ClassId) (f : hv_M) (x la ma mk n bn : Nat) (hx0 : f x = some (.inr (0, [.ref la, .int (nI n), .ref ma, .int (nI bn), .ref mk]))) (hn : n < 2 ^ 31) : hv_Met l y_BP_refuseWhenFull [Cond.code y_BP_refuseWhenFull b_BP_refuseWhenFull 1 none] (RM 1 1 6) b0 (Fa D cA) D CL [.ref x] f (fun v g => v = none ∧ g = f ∧ n < 100) (TX1 "java/lang/UnsupportedOperationException" f (100 ≤ n)) := by
  refine hv_Met.of (own := "BoxPacker") (by decide) rfl (Nat.le_of_ble_eq_true rfl) ?_
  intro p e s m below meth c hE hml hout hr hlocks hname hK hI ls hl
  have hl : lv_has ls 1 [(0, .ref x)] := hl
  obtain ⟨hx, hb, hown, hts, hVK⟩ := id hE
  refine lv_aload_n hx hb d_BP_refuseWhenFull_0 rfl (lv_at hl 0 rfl) ?_
  refine hv_get hE k_BP hI 1 (by decide) w45 hx0 rfl d_BP_refuseWhenFull_1 ?_
  refine lv_bipush (v := 100) hx hb d_BP_refuseWhenFull_4 (by decide) ?_
  refine lv_icmp_lt (tgt := 19) hx hb d_BP_refuseWhenFull_6 (by decide) (fun c6 => ?_) (fun c6 => ?_)
  · skip
    exact hv_vret hE hr hlocks hI hK (⟨rfl, rfl, (nI_lt100 hn).mp c6⟩) (by decide) (by decide) d_BP_refuseWhenFull_19
  · skip
    exact hv_throw hE hl0 (cls := "java/lang/UnsupportedOperationException") (text := "there are 100 items") (names := NMS) (by decide) (by decide) hI hK (hv_thr tw_UOE (by decide)) (by rw [hml]; exact hl.1) d_BP_refuseWhenFull_9 d_BP_refuseWhenFull_12 d_BP_refuseWhenFull_13 d_BP_refuseWhenFull_15 d_BP_refuseWhenFull_18 hout (by decide) (by decide) hlocks (⟨rfl, rfl, Nat.le_of_not_lt (fun q => c6 ((nI_lt100 hn).mpr q))⟩) (by decide) (by decide) (by decide) (by decide)

set_option maxHeartbeats 4000000 in
set_option maxRecDepth 100000 in
theorem c_BP_appendS (l : Launch) (hl0 : l.stackTraces = false) (b0 : Nat) (D : va_G) (cA : Nat → ClassId) (f : hv_M) (x la ma mk n bn : Nat) (it : Nat) (gl : Nat → Option Nat) (vs : List Value) (hx0 : f x = some (.inr (0, [.ref la, .int (nI n), .ref ma, .int (nI bn), .ref mk]))) (hla : f la = some (.inl (cA 3, 100, .inr (.inr (.inr (.inr gl)))))) (hit : f it = some (.inr (2, vs))) (hn : n < 100) : hv_Met l y_BP_append [Cond.code y_BP_append b_BP_append 3 (some FieldType.int)] (RM 1 0 0) b0 (Fa D cA) D CL [.ref x, .ref it] f (fun v g => v = some (.int (nI n)) ∧ g = hv_up (hv_up f la (.inl (cA 3, 100, .inr (.inr (.inr (.inr (va_up gl n (some it)))))))) x (.inr (0, [.ref la, .int (nI (n + 1)), .ref ma, .int (nI bn), .ref mk]))) (NX) := by
  refine hv_Met.of (own := "BoxPacker") (by decide) rfl (Nat.le_of_ble_eq_true rfl) ?_
  intro p e s m below meth c hE hml hout hr hlocks hname hK hI ls hl
  have hl : lv_has ls 3 [(0, .ref x), (1, .ref it)] := hl
  obtain ⟨hx, hb, hown, hts, hVK⟩ := id hE
  refine lv_aload_n hx hb d_BP_append_0 rfl (lv_at hl 0 rfl) ?_
  refine hv_get hE k_BP hI 1 (by decide) w45 hx0 rfl d_BP_append_1 ?_
  refine lv_istore_n (lv' := [(2, .int (nI n)), (0, .ref x), (1, .ref it)]) hx hb d_BP_append_4 rfl hl (by decide) rfl (fun ls hl => ?_)
  refine lv_aload_n hx hb d_BP_append_5 rfl (lv_at hl 1 rfl) ?_
  refine hv_get hE k_BP hI 0 (by decide) w44 hx0 rfl d_BP_append_6 ?_
  refine lv_iload_n hx hb d_BP_append_9 rfl (lv_at hl 0 rfl) ?_
  refine lv_aload_n hx hb d_BP_append_10 rfl (lv_at hl 2 rfl) ?_
  refine hv_aast hE hI 3 hla rfl hit rfl w762 (pk_in n 100 hn) d_BP_append_11 (fun H locs hI => ?_)
  obtain ⟨g1, eg1⟩ : ∃ z : hv_M, z = hv_up f la (.inl (cA 3, 100, .inr (.inr (.inr (.inr (va_up gl (nI n).toNatClampNeg (some it))))))) := ⟨_, rfl⟩
  have hI : hv_I D CL b0 g1 s.heap H locs := by rw [eg1]; exact hI
  have h2 : g1 x = some (.inr (0, [.ref la, .int (nI n), .ref ma, .int (nI bn), .ref mk])) := by rw [eg1]; rw [hv_up_ne _ _ (hv_ne hx0 hla (by simp))]; exact hx0
  have h3 : g1 la = some (.inl (cA 3, 100, .inr (.inr (.inr (.inr (va_up gl (nI n).toNatClampNeg (some it))))))) := by rw [eg1]; exact hv_up_self _ _ _
  have h4 : g1 it = some (.inr (2, vs)) := by rw [eg1]; rw [hv_up_ne _ _ (hv_ne hit hla (by simp))]; exact hit
  refine lv_aload_n hx hb d_BP_append_12 rfl (lv_at hl 1 rfl) ?_
  refine lv_dup hx hb d_BP_append_13 rfl ?_
  refine hv_get hE k_BP hI 1 (by decide) w45 h2 rfl d_BP_append_14 ?_
  refine lv_iconst (v := 1) hx hb d_BP_append_17 (by decide) ?_
  refine lv_iadd hx hb d_BP_append_18 ?_
  refine hv_put hE k_BP hI 1 (by decide) w45 h2 rfl rfl rfl (Nat.le_of_ble_eq_true rfl) d_BP_append_19 (fun H locs hI => ?_)
  obtain ⟨g5, eg5⟩ : ∃ z : hv_M, z = hv_up g1 x (.inr (0, [.ref la, .int ((nI n) + 1), .ref ma, .int (nI bn), .ref mk])) := ⟨_, rfl⟩
  have hI : hv_I D CL b0 g5 s.heap H locs := by rw [eg5]; exact hI
  have h6 : g5 x = some (.inr (0, [.ref la, .int ((nI n) + 1), .ref ma, .int (nI bn), .ref mk])) := by rw [eg5]; exact hv_up_self _ _ _
  have h7 : g5 la = some (.inl (cA 3, 100, .inr (.inr (.inr (.inr (va_up gl (nI n).toNatClampNeg (some it))))))) := by rw [eg5]; rw [hv_up_ne _ _ (hv_ne h3 h2 (by simp))]; exact h3
  have h8 : g5 it = some (.inr (2, vs)) := by rw [eg5]; rw [hv_up_ne _ _ (hv_ne h4 h2 (by simp))]; exact h4
  refine lv_iload_n hx hb d_BP_append_22 rfl (lv_at hl 0 rfl) ?_
  exact hv_iret hE hr hlocks hI hK (v := nI n) (⟨rfl, by rw [eg5, eg1, nI_cl (by omega), nI_1]⟩) (by decide) (by decide) d_BP_append_23

set_option maxHeartbeats 4000000 in
set_option maxRecDepth 100000 in
theorem c_BP_appendP (l : Launch) (hl0 : l.stackTraces = false) (b0 : Nat) (D : va_G) (cA : Nat → ClassId) (f : hv_M) (x la ma mk n bn : Nat) (it : Nat) (gl : Nat → Option Nat) (vs : List Value) (hx0 : f x = some (.inr (0, [.ref la, .int (nI n), .ref ma, .int (nI bn), .ref mk]))) (hla : f la = some (.inl (cA 3, 100, .inr (.inr (.inr (.inr gl)))))) (hit : f it = some (.inr (3, vs))) (hn : n < 100) : hv_Met l y_BP_append [Cond.code y_BP_append b_BP_append 3 (some FieldType.int)] (RM 1 0 0) b0 (Fa D cA) D CL [.ref x, .ref it] f (fun v g => v = some (.int (nI n)) ∧ g = hv_up (hv_up f la (.inl (cA 3, 100, .inr (.inr (.inr (.inr (va_up gl n (some it)))))))) x (.inr (0, [.ref la, .int (nI (n + 1)), .ref ma, .int (nI bn), .ref mk]))) (NX) := by
  refine hv_Met.of (own := "BoxPacker") (by decide) rfl (Nat.le_of_ble_eq_true rfl) ?_
  intro p e s m below meth c hE hml hout hr hlocks hname hK hI ls hl
  have hl : lv_has ls 3 [(0, .ref x), (1, .ref it)] := hl
  obtain ⟨hx, hb, hown, hts, hVK⟩ := id hE
  refine lv_aload_n hx hb d_BP_append_0 rfl (lv_at hl 0 rfl) ?_
  refine hv_get hE k_BP hI 1 (by decide) w45 hx0 rfl d_BP_append_1 ?_
  refine lv_istore_n (lv' := [(2, .int (nI n)), (0, .ref x), (1, .ref it)]) hx hb d_BP_append_4 rfl hl (by decide) rfl (fun ls hl => ?_)
  refine lv_aload_n hx hb d_BP_append_5 rfl (lv_at hl 1 rfl) ?_
  refine hv_get hE k_BP hI 0 (by decide) w44 hx0 rfl d_BP_append_6 ?_
  refine lv_iload_n hx hb d_BP_append_9 rfl (lv_at hl 0 rfl) ?_
  refine lv_aload_n hx hb d_BP_append_10 rfl (lv_at hl 2 rfl) ?_
  refine hv_aast hE hI 3 hla rfl hit rfl w763 (pk_in n 100 hn) d_BP_append_11 (fun H locs hI => ?_)
  obtain ⟨g1, eg1⟩ : ∃ z : hv_M, z = hv_up f la (.inl (cA 3, 100, .inr (.inr (.inr (.inr (va_up gl (nI n).toNatClampNeg (some it))))))) := ⟨_, rfl⟩
  have hI : hv_I D CL b0 g1 s.heap H locs := by rw [eg1]; exact hI
  have h2 : g1 x = some (.inr (0, [.ref la, .int (nI n), .ref ma, .int (nI bn), .ref mk])) := by rw [eg1]; rw [hv_up_ne _ _ (hv_ne hx0 hla (by simp))]; exact hx0
  have h3 : g1 la = some (.inl (cA 3, 100, .inr (.inr (.inr (.inr (va_up gl (nI n).toNatClampNeg (some it))))))) := by rw [eg1]; exact hv_up_self _ _ _
  have h4 : g1 it = some (.inr (3, vs)) := by rw [eg1]; rw [hv_up_ne _ _ (hv_ne hit hla (by simp))]; exact hit
  refine lv_aload_n hx hb d_BP_append_12 rfl (lv_at hl 1 rfl) ?_
  refine lv_dup hx hb d_BP_append_13 rfl ?_
  refine hv_get hE k_BP hI 1 (by decide) w45 h2 rfl d_BP_append_14 ?_
  refine lv_iconst (v := 1) hx hb d_BP_append_17 (by decide) ?_
  refine lv_iadd hx hb d_BP_append_18 ?_
  refine hv_put hE k_BP hI 1 (by decide) w45 h2 rfl rfl rfl (Nat.le_of_ble_eq_true rfl) d_BP_append_19 (fun H locs hI => ?_)
  obtain ⟨g5, eg5⟩ : ∃ z : hv_M, z = hv_up g1 x (.inr (0, [.ref la, .int ((nI n) + 1), .ref ma, .int (nI bn), .ref mk])) := ⟨_, rfl⟩
  have hI : hv_I D CL b0 g5 s.heap H locs := by rw [eg5]; exact hI
  have h6 : g5 x = some (.inr (0, [.ref la, .int ((nI n) + 1), .ref ma, .int (nI bn), .ref mk])) := by rw [eg5]; exact hv_up_self _ _ _
  have h7 : g5 la = some (.inl (cA 3, 100, .inr (.inr (.inr (.inr (va_up gl (nI n).toNatClampNeg (some it))))))) := by rw [eg5]; rw [hv_up_ne _ _ (hv_ne h3 h2 (by simp))]; exact h3
  have h8 : g5 it = some (.inr (3, vs)) := by rw [eg5]; rw [hv_up_ne _ _ (hv_ne h4 h2 (by simp))]; exact h4
  refine lv_iload_n hx hb d_BP_append_22 rfl (lv_at hl 0 rfl) ?_
  exact hv_iret hE hr hlocks hI hK (v := nI n) (⟨rfl, by rw [eg5, eg1, nI_cl (by omega), nI_1]⟩) (by decide) (by decide) d_BP_append_23
end
section
set_option maxHeartbeats 4000000 in
set_option maxRecDepth 100000 in
theorem c_Item_init (l : Launch) (hl0 : l.stackTraces = false) (b0 : Nat) (D : va_G) (cA : Nat → ClassId) (f : hv_M) (x : Nat)  : hv_Met l y_Item_init [Cond.code y_Item_init b_Item_init 1 none] (RM 1 0 0) b0 (Fa D cA) D CL [.ref x] f (PV f none) (NX) := by
  refine hv_Met.of (own := "BoxPacker$Item") (by decide) rfl (Nat.le_of_ble_eq_true rfl) ?_
  intro p e s m below meth c hE hml hout hr hlocks hname hK hI ls hl
  have hl : lv_has ls 1 [(0, .ref x)] := hl
  obtain ⟨hx, hb, hown, hts, hVK⟩ := id hE
  refine lv_aload_n hx hb d_Item_init_0 rfl (lv_at hl 0 rfl) ?_
  refine W.objInit hx hb hown (hts _ w185) (hts _ w22) (hts _ w23) rfl (by rw [hml]; exact hl.1) rfl d_Item_init_1 (by decide) (Nat.le_of_ble_eq_true rfl) ?_
  refine W.eq (g2 := F0 m 4 ls []) rfl ?_
  exact hv_vret hE hr hlocks hI hK (⟨rfl, rfl⟩) (by decide) (by decide) d_Item_init_4

set_option maxHeartbeats 4000000 in
set_option maxRecDepth 100000 in
theorem c_Solid_init (l : Launch) (hl0 : l.stackTraces = false) (b0 : Nat) (D : va_G) (cA : Nat → ClassId) (f : hv_M) (x : Nat) (t w h d sh : Int32) (hx0 : f x = some (.inr (2, [.int 0, .int 0, .int 0, .int 0, .null, .int 0]))) : hv_Met l y_Solid_init [Cond.code y_Solid_init b_Solid_init 7 none] (RM 2 0 0) b0 (Fa D cA) D CL [.ref x, .int t, .int w, .int h, .int d, .null, .int sh] f (fun v g => v = none ∧ g = hv_up f x (.inr (2, [.int t, .int w, .int h, .int d, .null, .int sh]))) (NX) := by
  refine hv_Met.of (own := "BoxPacker$Solid") (by decide) rfl (Nat.le_of_ble_eq_true rfl) ?_
  intro p e s m below meth c hE hml hout hr hlocks hname hK hI ls hl
  have hl : lv_has ls 7 [(0, .ref x), (1, .int t), (2, .int w), (3, .int h), (4, .int d), (5, .null), (6, .int sh)] := hl
  obtain ⟨hx, hb, hown, hts, hVK⟩ := id hE
  refine lv_aload_n hx hb d_Solid_init_0 rfl (lv_at hl 0 rfl) ?_
  refine hv_CN (As := []) (rest := []) hE hml hK hI (c_Item_init l hl0 b0 D cA f x) cd_Item_init rfl w182 w183 rfl hl.1 (Nat.le_of_ble_eq_true rfl) d_Solid_init_1 ⟨by decide, by decide⟩ ⟨by decide, by decide⟩ (fun v9 g1 H locs hp hI => ?_) (fun q E ce g9 H locs hp => hp.elim)
  obtain ⟨hv, eg1⟩ := hp
  rw [hv]
  refine W.eq (g2 := F0 m 4 ls []) rfl ?_
  have h2 : g1 x = some (.inr (2, [.int 0, .int 0, .int 0, .int 0, .null, .int 0])) := by rw [eg1]; exact hx0
  refine lv_aload_n hx hb d_Solid_init_4 rfl (lv_at hl 0 rfl) ?_
  refine lv_iload_n hx hb d_Solid_init_5 rfl (lv_at hl 1 rfl) ?_
  refine hv_putF hE k_Solid hI hname 0 (by decide) w186 h2 rfl rfl rfl rfl (Nat.le_of_ble_eq_true rfl) d_Solid_init_6 (fun H locs hI => ?_)
  obtain ⟨g3, eg3⟩ : ∃ z : hv_M, z = hv_up g1 x (.inr (2, [.int t, .int 0, .int 0, .int 0, .null, .int 0])) := ⟨_, rfl⟩
  have hI : hv_I D CL b0 g3 s.heap H locs := by rw [eg3]; exact hI
  have h4 : g3 x = some (.inr (2, [.int t, .int 0, .int 0, .int 0, .null, .int 0])) := by rw [eg3]; exact hv_up_self _ _ _
  refine lv_aload_n hx hb d_Solid_init_9 rfl (lv_at hl 0 rfl) ?_
  refine lv_iload_n hx hb d_Solid_init_10 rfl (lv_at hl 2 rfl) ?_
  refine hv_putF hE k_Solid hI hname 1 (by decide) w188 h4 rfl rfl rfl rfl (Nat.le_of_ble_eq_true rfl) d_Solid_init_11 (fun H locs hI => ?_)
  obtain ⟨g5, eg5⟩ : ∃ z : hv_M, z = hv_up g3 x (.inr (2, [.int t, .int w, .int 0, .int 0, .null, .int 0])) := ⟨_, rfl⟩
  have hI : hv_I D CL b0 g5 s.heap H locs := by rw [eg5]; exact hI
  have h6 : g5 x = some (.inr (2, [.int t, .int w, .int 0, .int 0, .null, .int 0])) := by rw [eg5]; exact hv_up_self _ _ _
  refine lv_aload_n hx hb d_Solid_init_14 rfl (lv_at hl 0 rfl) ?_
  refine lv_iload_n hx hb d_Solid_init_15 rfl (lv_at hl 3 rfl) ?_
  refine hv_putF hE k_Solid hI hname 2 (by decide) w191 h6 rfl rfl rfl rfl (Nat.le_of_ble_eq_true rfl) d_Solid_init_16 (fun H locs hI => ?_)
  obtain ⟨g7, eg7⟩ : ∃ z : hv_M, z = hv_up g5 x (.inr (2, [.int t, .int w, .int h, .int 0, .null, .int 0])) := ⟨_, rfl⟩
  have hI : hv_I D CL b0 g7 s.heap H locs := by rw [eg7]; exact hI
  have h8 : g7 x = some (.inr (2, [.int t, .int w, .int h, .int 0, .null, .int 0])) := by rw [eg7]; exact hv_up_self _ _ _
  refine lv_aload_n hx hb d_Solid_init_19 rfl (lv_at hl 0 rfl) ?_
  refine lv_iload hx hb d_Solid_init_20 (lv_at hl 4 rfl) ?_
  refine hv_putF hE k_Solid hI hname 3 (by decide) w194 h8 rfl rfl rfl rfl (Nat.le_of_ble_eq_true rfl) d_Solid_init_22 (fun H locs hI => ?_)
  obtain ⟨g9, eg9⟩ : ∃ z : hv_M, z = hv_up g7 x (.inr (2, [.int t, .int w, .int h, .int d, .null, .int 0])) := ⟨_, rfl⟩
  have hI : hv_I D CL b0 g9 s.heap H locs := by rw [eg9]; exact hI
  have h10 : g9 x = some (.inr (2, [.int t, .int w, .int h, .int d, .null, .int 0])) := by rw [eg9]; exact hv_up_self _ _ _
  refine lv_aload_n hx hb d_Solid_init_25 rfl (lv_at hl 0 rfl) ?_
  refine lv_aloadN hx hb d_Solid_init_26 (lv_at hl 5 rfl) ?_
  refine hv_putF hE k_Solid hI hname 4 (by decide) w197 h10 rfl rfl rfl rfl (Nat.le_of_ble_eq_true rfl) d_Solid_init_28 (fun H locs hI => ?_)
  obtain ⟨g11, eg11⟩ : ∃ z : hv_M, z = hv_up g9 x (.inr (2, [.int t, .int w, .int h, .int d, .null, .int 0])) := ⟨_, rfl⟩
  have hI : hv_I D CL b0 g11 s.heap H locs := by rw [eg11]; exact hI
  have h12 : g11 x = some (.inr (2, [.int t, .int w, .int h, .int d, .null, .int 0])) := by rw [eg11]; exact hv_up_self _ _ _
  refine lv_aload_n hx hb d_Solid_init_31 rfl (lv_at hl 0 rfl) ?_
  refine lv_iload hx hb d_Solid_init_32 (lv_at hl 6 rfl) ?_
  refine hv_putF hE k_Solid hI hname 5 (by decide) w200 h12 rfl rfl rfl rfl (Nat.le_of_ble_eq_true rfl) d_Solid_init_34 (fun H locs hI => ?_)
  obtain ⟨g13, eg13⟩ : ∃ z : hv_M, z = hv_up g11 x (.inr (2, [.int t, .int w, .int h, .int d, .null, .int sh])) := ⟨_, rfl⟩
  have hI : hv_I D CL b0 g13 s.heap H locs := by rw [eg13]; exact hI
  have h14 : g13 x = some (.inr (2, [.int t, .int w, .int h, .int d, .null, .int sh])) := by rw [eg13]; exact hv_up_self _ _ _
  exact hv_vret hE hr hlocks hI hK (⟨rfl, by simp only [eg13, eg11, eg9, eg7, eg5, eg3, eg1, hv_up_up]⟩) (by decide) (by decide) d_Solid_init_37

set_option maxHeartbeats 4000000 in
set_option maxRecDepth 100000 in
theorem c_Solid_initB (l : Launch) (hl0 : l.stackTraces = false) (b0 : Nat) (D : va_G) (cA : Nat → ClassId) (f : hv_M) (x : Nat) (t w h d sh : Int32) (q : Nat) (hx0 : f x = some (.inr (2, [.int 0, .int 0, .int 0, .int 0, .null, .int 0]))) : hv_Met l y_Solid_init [Cond.code y_Solid_init b_Solid_init 7 none] (RM 2 0 0) b0 (Fa D cA) D CL [.ref x, .int t, .int w, .int h, .int d, .ref q, .int sh] f (fun v g => v = none ∧ g = hv_up f x (.inr (2, [.int t, .int w, .int h, .int d, .ref q, .int sh]))) (NX) := by
  refine hv_Met.of (own := "BoxPacker$Solid") (by decide) rfl (Nat.le_of_ble_eq_true rfl) ?_
  intro p e s m below meth c hE hml hout hr hlocks hname hK hI ls hl
  have hl : lv_has ls 7 [(0, .ref x), (1, .int t), (2, .int w), (3, .int h), (4, .int d), (5, .ref q), (6, .int sh)] := hl
  obtain ⟨hx, hb, hown, hts, hVK⟩ := id hE
  refine lv_aload_n hx hb d_Solid_init_0 rfl (lv_at hl 0 rfl) ?_
  refine hv_CN (As := []) (rest := []) hE hml hK hI (c_Item_init l hl0 b0 D cA f x) cd_Item_init rfl w182 w183 rfl hl.1 (Nat.le_of_ble_eq_true rfl) d_Solid_init_1 ⟨by decide, by decide⟩ ⟨by decide, by decide⟩ (fun v9 g1 H locs hp hI => ?_) (fun q E ce g9 H locs hp => hp.elim)
  obtain ⟨hv, eg1⟩ := hp
  rw [hv]
  refine W.eq (g2 := F0 m 4 ls []) rfl ?_
  have h2 : g1 x = some (.inr (2, [.int 0, .int 0, .int 0, .int 0, .null, .int 0])) := by rw [eg1]; exact hx0
  refine lv_aload_n hx hb d_Solid_init_4 rfl (lv_at hl 0 rfl) ?_
  refine lv_iload_n hx hb d_Solid_init_5 rfl (lv_at hl 1 rfl) ?_
  refine hv_putF hE k_Solid hI hname 0 (by decide) w186 h2 rfl rfl rfl rfl (Nat.le_of_ble_eq_true rfl) d_Solid_init_6 (fun H locs hI => ?_)
  obtain ⟨g3, eg3⟩ : ∃ z : hv_M, z = hv_up g1 x (.inr (2, [.int t, .int 0, .int 0, .int 0, .null, .int 0])) := ⟨_, rfl⟩
  have hI : hv_I D CL b0 g3 s.heap H locs := by rw [eg3]; exact hI
  have h4 : g3 x = some (.inr (2, [.int t, .int 0, .int 0, .int 0, .null, .int 0])) := by rw [eg3]; exact hv_up_self _ _ _
  refine lv_aload_n hx hb d_Solid_init_9 rfl (lv_at hl 0 rfl) ?_
  refine lv_iload_n hx hb d_Solid_init_10 rfl (lv_at hl 2 rfl) ?_
  refine hv_putF hE k_Solid hI hname 1 (by decide) w188 h4 rfl rfl rfl rfl (Nat.le_of_ble_eq_true rfl) d_Solid_init_11 (fun H locs hI => ?_)
  obtain ⟨g5, eg5⟩ : ∃ z : hv_M, z = hv_up g3 x (.inr (2, [.int t, .int w, .int 0, .int 0, .null, .int 0])) := ⟨_, rfl⟩
  have hI : hv_I D CL b0 g5 s.heap H locs := by rw [eg5]; exact hI
  have h6 : g5 x = some (.inr (2, [.int t, .int w, .int 0, .int 0, .null, .int 0])) := by rw [eg5]; exact hv_up_self _ _ _
  refine lv_aload_n hx hb d_Solid_init_14 rfl (lv_at hl 0 rfl) ?_
  refine lv_iload_n hx hb d_Solid_init_15 rfl (lv_at hl 3 rfl) ?_
  refine hv_putF hE k_Solid hI hname 2 (by decide) w191 h6 rfl rfl rfl rfl (Nat.le_of_ble_eq_true rfl) d_Solid_init_16 (fun H locs hI => ?_)
  obtain ⟨g7, eg7⟩ : ∃ z : hv_M, z = hv_up g5 x (.inr (2, [.int t, .int w, .int h, .int 0, .null, .int 0])) := ⟨_, rfl⟩
  have hI : hv_I D CL b0 g7 s.heap H locs := by rw [eg7]; exact hI
  have h8 : g7 x = some (.inr (2, [.int t, .int w, .int h, .int 0, .null, .int 0])) := by rw [eg7]; exact hv_up_self _ _ _
  refine lv_aload_n hx hb d_Solid_init_19 rfl (lv_at hl 0 rfl) ?_
  refine lv_iload hx hb d_Solid_init_20 (lv_at hl 4 rfl) ?_
  refine hv_putF hE k_Solid hI hname 3 (by decide) w194 h8 rfl rfl rfl rfl (Nat.le_of_ble_eq_true rfl) d_Solid_init_22 (fun H locs hI => ?_)
  obtain ⟨g9, eg9⟩ : ∃ z : hv_M, z = hv_up g7 x (.inr (2, [.int t, .int w, .int h, .int d, .null, .int 0])) := ⟨_, rfl⟩
  have hI : hv_I D CL b0 g9 s.heap H locs := by rw [eg9]; exact hI
  have h10 : g9 x = some (.inr (2, [.int t, .int w, .int h, .int d, .null, .int 0])) := by rw [eg9]; exact hv_up_self _ _ _
  refine lv_aload_n hx hb d_Solid_init_25 rfl (lv_at hl 0 rfl) ?_
  refine lv_aload hx hb d_Solid_init_26 (lv_at hl 5 rfl) ?_
  refine hv_putF hE k_Solid hI hname 4 (by decide) w197 h10 rfl rfl rfl rfl (Nat.le_of_ble_eq_true rfl) d_Solid_init_28 (fun H locs hI => ?_)
  obtain ⟨g11, eg11⟩ : ∃ z : hv_M, z = hv_up g9 x (.inr (2, [.int t, .int w, .int h, .int d, .ref q, .int 0])) := ⟨_, rfl⟩
  have hI : hv_I D CL b0 g11 s.heap H locs := by rw [eg11]; exact hI
  have h12 : g11 x = some (.inr (2, [.int t, .int w, .int h, .int d, .ref q, .int 0])) := by rw [eg11]; exact hv_up_self _ _ _
  refine lv_aload_n hx hb d_Solid_init_31 rfl (lv_at hl 0 rfl) ?_
  refine lv_iload hx hb d_Solid_init_32 (lv_at hl 6 rfl) ?_
  refine hv_putF hE k_Solid hI hname 5 (by decide) w200 h12 rfl rfl rfl rfl (Nat.le_of_ble_eq_true rfl) d_Solid_init_34 (fun H locs hI => ?_)
  obtain ⟨g13, eg13⟩ : ∃ z : hv_M, z = hv_up g11 x (.inr (2, [.int t, .int w, .int h, .int d, .ref q, .int sh])) := ⟨_, rfl⟩
  have hI : hv_I D CL b0 g13 s.heap H locs := by rw [eg13]; exact hI
  have h14 : g13 x = some (.inr (2, [.int t, .int w, .int h, .int d, .ref q, .int sh])) := by rw [eg13]; exact hv_up_self _ _ _
  exact hv_vret hE hr hlocks hI hK (⟨rfl, by simp only [eg13, eg11, eg9, eg7, eg5, eg3, eg1, hv_up_up]⟩) (by decide) (by decide) d_Solid_init_37

set_option maxHeartbeats 4000000 in
set_option maxRecDepth 100000 in
theorem c_Space_init (l : Launch) (hl0 : l.stackTraces = false) (b0 : Nat) (D : va_G) (cA : Nat → ClassId) (f : hv_M) (x : Nat) (w a b d e9 : Int32) (hx0 : f x = some (.inr (3, [.int 0, .int 0, .int 0, .int 0, .int 0]))) : hv_Met l y_Space_init [Cond.code y_Space_init b_Space_init 6 none] (RM 2 0 0) b0 (Fa D cA) D CL [.ref x, .int w, .int a, .int b, .int d, .int e9] f (fun v g => v = none ∧ g = hv_up f x (.inr (3, [.int w, .int a, .int b, .int d, .int e9]))) (NX) := by
  refine hv_Met.of (own := "BoxPacker$Space") (by decide) rfl (Nat.le_of_ble_eq_true rfl) ?_
  intro p e s m below meth c hE hml hout hr hlocks hname hK hI ls hl
  have hl : lv_has ls 6 [(0, .ref x), (1, .int w), (2, .int a), (3, .int b), (4, .int d), (5, .int e9)] := hl
  obtain ⟨hx, hb, hown, hts, hVK⟩ := id hE
  refine lv_aload_n hx hb d_Space_init_0 rfl (lv_at hl 0 rfl) ?_
  refine hv_CN (As := []) (rest := []) hE hml hK hI (c_Item_init l hl0 b0 D cA f x) cd_Item_init rfl w250 w183 rfl hl.1 (Nat.le_of_ble_eq_true rfl) d_Space_init_1 ⟨by decide, by decide⟩ ⟨by decide, by decide⟩ (fun v9 g1 H locs hp hI => ?_) (fun q E ce g9 H locs hp => hp.elim)
  obtain ⟨hv, eg1⟩ := hp
  rw [hv]
  refine W.eq (g2 := F0 m 4 ls []) rfl ?_
  have h2 : g1 x = some (.inr (3, [.int 0, .int 0, .int 0, .int 0, .int 0])) := by rw [eg1]; exact hx0
  refine lv_aload_n hx hb d_Space_init_4 rfl (lv_at hl 0 rfl) ?_
  refine lv_iload_n hx hb d_Space_init_5 rfl (lv_at hl 1 rfl) ?_
  refine hv_putF hE k_Space hI hname 0 (by decide) w251 h2 rfl rfl rfl rfl (Nat.le_of_ble_eq_true rfl) d_Space_init_6 (fun H locs hI => ?_)
  obtain ⟨g3, eg3⟩ : ∃ z : hv_M, z = hv_up g1 x (.inr (3, [.int w, .int 0, .int 0, .int 0, .int 0])) := ⟨_, rfl⟩
  have hI : hv_I D CL b0 g3 s.heap H locs := by rw [eg3]; exact hI
  have h4 : g3 x = some (.inr (3, [.int w, .int 0, .int 0, .int 0, .int 0])) := by rw [eg3]; exact hv_up_self _ _ _
  refine lv_aload_n hx hb d_Space_init_9 rfl (lv_at hl 0 rfl) ?_
  refine lv_iload_n hx hb d_Space_init_10 rfl (lv_at hl 2 rfl) ?_
  refine hv_putF hE k_Space hI hname 1 (by decide) w253 h4 rfl rfl rfl rfl (Nat.le_of_ble_eq_true rfl) d_Space_init_11 (fun H locs hI => ?_)
  obtain ⟨g5, eg5⟩ : ∃ z : hv_M, z = hv_up g3 x (.inr (3, [.int w, .int a, .int 0, .int 0, .int 0])) := ⟨_, rfl⟩
  have hI : hv_I D CL b0 g5 s.heap H locs := by rw [eg5]; exact hI
  have h6 : g5 x = some (.inr (3, [.int w, .int a, .int 0, .int 0, .int 0])) := by rw [eg5]; exact hv_up_self _ _ _
  refine lv_aload_n hx hb d_Space_init_14 rfl (lv_at hl 0 rfl) ?_
  refine lv_iload_n hx hb d_Space_init_15 rfl (lv_at hl 3 rfl) ?_
  refine hv_putF hE k_Space hI hname 2 (by decide) w254 h6 rfl rfl rfl rfl (Nat.le_of_ble_eq_true rfl) d_Space_init_16 (fun H locs hI => ?_)
  obtain ⟨g7, eg7⟩ : ∃ z : hv_M, z = hv_up g5 x (.inr (3, [.int w, .int a, .int b, .int 0, .int 0])) := ⟨_, rfl⟩
  have hI : hv_I D CL b0 g7 s.heap H locs := by rw [eg7]; exact hI
  have h8 : g7 x = some (.inr (3, [.int w, .int a, .int b, .int 0, .int 0])) := by rw [eg7]; exact hv_up_self _ _ _
  refine lv_aload_n hx hb d_Space_init_19 rfl (lv_at hl 0 rfl) ?_
  refine lv_iload hx hb d_Space_init_20 (lv_at hl 4 rfl) ?_
  refine hv_putF hE k_Space hI hname 3 (by decide) w255 h8 rfl rfl rfl rfl (Nat.le_of_ble_eq_true rfl) d_Space_init_22 (fun H locs hI => ?_)
  obtain ⟨g9, eg9⟩ : ∃ z : hv_M, z = hv_up g7 x (.inr (3, [.int w, .int a, .int b, .int d, .int 0])) := ⟨_, rfl⟩
  have hI : hv_I D CL b0 g9 s.heap H locs := by rw [eg9]; exact hI
  have h10 : g9 x = some (.inr (3, [.int w, .int a, .int b, .int d, .int 0])) := by rw [eg9]; exact hv_up_self _ _ _
  refine lv_aload_n hx hb d_Space_init_25 rfl (lv_at hl 0 rfl) ?_
  refine lv_iload hx hb d_Space_init_26 (lv_at hl 5 rfl) ?_
  refine hv_putF hE k_Space hI hname 4 (by decide) w256 h10 rfl rfl rfl rfl (Nat.le_of_ble_eq_true rfl) d_Space_init_28 (fun H locs hI => ?_)
  obtain ⟨g11, eg11⟩ : ∃ z : hv_M, z = hv_up g9 x (.inr (3, [.int w, .int a, .int b, .int d, .int e9])) := ⟨_, rfl⟩
  have hI : hv_I D CL b0 g11 s.heap H locs := by rw [eg11]; exact hI
  have h12 : g11 x = some (.inr (3, [.int w, .int a, .int b, .int d, .int e9])) := by rw [eg11]; exact hv_up_self _ _ _
  exact hv_vret hE hr hlocks hI hK (⟨rfl, by simp only [eg11, eg9, eg7, eg5, eg3, eg1, hv_up_up]⟩) (by decide) (by decide) d_Space_init_31

set_option maxHeartbeats 4000000 in
set_option maxRecDepth 100000 in
theorem c_Space_give (l : Launch) (hl0 : l.stackTraces = false) (b0 : Nat) (D : va_G) (cA : Nat → ClassId) (f : hv_M) (x : Nat) (w a b d e9 : Int32) (sh : Bool) (hx0 : f x = some (.inr (3, [.int w, .int a, .int b, .int d, .int e9]))) : hv_Met l y_Space_give [Cond.code y_Space_give b_Space_give 2 (some FieldType.int)] (RM 0 0 0) b0 (Fa D cA) D CL [.ref x, .int (b2i sh)] f (PV f (some (.int (if sh = true then d else a)))) (NX) := by
  refine hv_Met.of (own := "BoxPacker$Space") (by decide) rfl (Nat.le_of_ble_eq_true rfl) ?_
  intro p e s m below meth c hE hml hout hr hlocks hname hK hI ls hl
  have hl : lv_has ls 2 [(0, .ref x), (1, .int (b2i sh))] := hl
  obtain ⟨hx, hb, hown, hts, hVK⟩ := id hE
  refine lv_iload_n hx hb d_Space_give_0 rfl (lv_at hl 1 rfl) ?_
  refine lv_if_eq (tgt := 11) hx hb d_Space_give_1 (by decide) (fun c1 => ?_) (fun c1 => ?_)
  · skip
    refine lv_aload_n hx hb d_Space_give_11 rfl (lv_at hl 0 rfl) ?_
    refine hv_get hE k_Space hI 1 (by decide) w253 hx0 rfl d_Space_give_12 ?_
    exact hv_iret hE hr hlocks hI hK (v := a) (⟨by have q1 := c1; simp only [b2i_ne] at q1; simp [*], rfl⟩) (by decide) (by decide) d_Space_give_15
  · skip
    refine lv_aload_n hx hb d_Space_give_4 rfl (lv_at hl 0 rfl) ?_
    refine hv_get hE k_Space hI 3 (by decide) w255 hx0 rfl d_Space_give_5 ?_
    refine lv_goto (tgt := 15) hx hb d_Space_give_8 (by decide) ?_
    exact hv_iret hE hr hlocks hI hK (v := d) (⟨by have q1 := c1; simp only [b2i_ne] at q1; simp [*], rfl⟩) (by decide) (by decide) d_Space_give_15

set_option maxHeartbeats 4000000 in
set_option maxRecDepth 100000 in
theorem c_Space_giveOrder (l : Launch) (hl0 : l.stackTraces = false) (b0 : Nat) (D : va_G) (cA : Nat → ClassId) (f : hv_M) (x : Nat) (w a b d e9 : Int32) (sh : Bool) (hx0 : f x = some (.inr (3, [.int w, .int a, .int b, .int d, .int e9]))) : hv_Met l y_Space_giveOrder [Cond.code y_Space_giveOrder b_Space_giveOrder 2 (some FieldType.int)] (RM 0 0 0) b0 (Fa D cA) D CL [.ref x, .int (b2i sh)] f (PV f (some (.int (if sh = true then e9 else b)))) (NX) := by
  refine hv_Met.of (own := "BoxPacker$Space") (by decide) rfl (Nat.le_of_ble_eq_true rfl) ?_
  intro p e s m below meth c hE hml hout hr hlocks hname hK hI ls hl
  have hl : lv_has ls 2 [(0, .ref x), (1, .int (b2i sh))] := hl
  obtain ⟨hx, hb, hown, hts, hVK⟩ := id hE
  refine lv_iload_n hx hb d_Space_giveOrder_0 rfl (lv_at hl 1 rfl) ?_
  refine lv_if_eq (tgt := 11) hx hb d_Space_giveOrder_1 (by decide) (fun c1 => ?_) (fun c1 => ?_)
  · skip
    refine lv_aload_n hx hb d_Space_giveOrder_11 rfl (lv_at hl 0 rfl) ?_
    refine hv_get hE k_Space hI 2 (by decide) w254 hx0 rfl d_Space_giveOrder_12 ?_
    exact hv_iret hE hr hlocks hI hK (v := b) (⟨by have q1 := c1; simp only [b2i_ne] at q1; simp [*], rfl⟩) (by decide) (by decide) d_Space_giveOrder_15
  · skip
    refine lv_aload_n hx hb d_Space_giveOrder_4 rfl (lv_at hl 0 rfl) ?_
    refine hv_get hE k_Space hI 4 (by decide) w256 hx0 rfl d_Space_giveOrder_5 ?_
    refine lv_goto (tgt := 15) hx hb d_Space_giveOrder_8 (by decide) ?_
    exact hv_iret hE hr hlocks hI hK (v := e9) (⟨by have q1 := c1; simp only [b2i_ne] at q1; simp [*], rfl⟩) (by decide) (by decide) d_Space_giveOrder_15

set_option maxHeartbeats 4000000 in
set_option maxRecDepth 100000 in
theorem c_Marks_init (l : Launch) (hl0 : l.stackTraces = false) (b0 : Nat) (D : va_G) (cA : Nat → ClassId) (f : hv_M) (x : Nat) (hx0 : f x = some (.inr (4, [.null, .int 0]))) : hv_Met l y_Marks_init [Cond.code y_Marks_init b_Marks_init 1 none] (RM 1 1 6000) b0 (Fa D cA) D CL [.ref x] f (fun v g => v = none ∧ ∃ q : Nat, f q = none ∧ g = hv_up (hv_up f q (.inl (cA 1, 6000, .inr (.inl (fun _ => 0))))) x (.inr (4, [.ref q, .int 0]))) (NX) := by
  refine hv_Met.of (own := "BoxPacker$Marks") (by decide) rfl (Nat.le_of_ble_eq_true rfl) ?_
  intro p e s m below meth c hE hml hout hr hlocks hname hK hI ls hl
  have hl : lv_has ls 1 [(0, .ref x)] := hl
  obtain ⟨hx, hb, hown, hts, hVK⟩ := id hE
  refine lv_aload_n hx hb d_Marks_init_0 rfl (lv_at hl 0 rfl) ?_
  refine W.objInit hx hb hown (hts _ w33) (hts _ w22) (hts _ w23) rfl (by rw [hml]; exact hl.1) rfl d_Marks_init_1 (by decide) (Nat.le_of_ble_eq_true rfl) ?_
  refine W.eq (g2 := F0 m 4 ls []) rfl ?_
  refine lv_aload_n hx hb d_Marks_init_4 rfl (lv_at hl 0 rfl) ?_
  refine lv_sipush (v := 6000) hx hb d_Marks_init_5 (by decide) ?_
  refine hv_newL hE hI 1 rfl w43 (n := 6000) (by decide) (by decide) (by decide) (by decide) (by decide) d_Marks_init_8 (fun q1 H hnq1 hI => ?_)
  obtain ⟨g2, eg2⟩ : ∃ z : hv_M, z = hv_up f q1 (.inl (cA 1, 6000, .inr (.inl (fun _ => 0)))) := ⟨_, rfl⟩
  have hI : hv_I D CL b0 g2 s.heap H [] := by rw [eg2]; exact hI
  have h3 : g2 x = some (.inr (4, [.null, .int 0])) := by rw [eg2]; rw [hv_up_ne _ _ (hv_nn hx0 hnq1)]; exact hx0
  have h4 : g2 q1 = some (.inl (cA 1, 6000, .inr (.inl (fun _ => 0)))) := by rw [eg2]; exact hv_up_self _ _ _
  refine hv_putF hE k_Marks hI hname 0 (by decide) w34 h3 rfl rfl rfl rfl (Nat.le_of_ble_eq_true rfl) d_Marks_init_10 (fun H locs hI => ?_)
  obtain ⟨g5, eg5⟩ : ∃ z : hv_M, z = hv_up g2 x (.inr (4, [.ref q1, .int 0])) := ⟨_, rfl⟩
  have hI : hv_I D CL b0 g5 s.heap H locs := by rw [eg5]; exact hI
  have h6 : g5 x = some (.inr (4, [.ref q1, .int 0])) := by rw [eg5]; exact hv_up_self _ _ _
  have h7 : g5 q1 = some (.inl (cA 1, 6000, .inr (.inl (fun _ => 0)))) := by rw [eg5]; rw [hv_up_ne _ _ (hv_ne h4 h3 (by simp))]; exact h4
  refine lv_aload_n hx hb d_Marks_init_13 rfl (lv_at hl 0 rfl) ?_
  refine lv_iconst (v := 0) hx hb d_Marks_init_14 (by decide) ?_
  refine hv_put hE k_Marks hI 1 (by decide) w36 h6 rfl rfl rfl (Nat.le_of_ble_eq_true rfl) d_Marks_init_15 (fun H locs hI => ?_)
  obtain ⟨g8, eg8⟩ : ∃ z : hv_M, z = hv_up g5 x (.inr (4, [.ref q1, .int 0])) := ⟨_, rfl⟩
  have hI : hv_I D CL b0 g8 s.heap H locs := by rw [eg8]; exact hI
  have h9 : g8 x = some (.inr (4, [.ref q1, .int 0])) := by rw [eg8]; exact hv_up_self _ _ _
  have h10 : g8 q1 = some (.inl (cA 1, 6000, .inr (.inl (fun _ => 0)))) := by rw [eg8]; rw [hv_up_ne _ _ (hv_ne h7 h6 (by simp))]; exact h7
  exact hv_vret hE hr hlocks hI hK (⟨rfl, q1, hnq1, by simp only [eg8, eg5, eg2, hv_up_up]⟩) (by decide) (by decide) d_Marks_init_18

set_option maxHeartbeats 4000000 in
set_option maxRecDepth 100000 in
theorem c_Marks_clear (l : Launch) (hl0 : l.stackTraces = false) (b0 : Nat) (D : va_G) (cA : Nat → ClassId) (f : hv_M) (x rw9 : Nat) (k : Int32) (hx0 : f x = some (.inr (4, [.ref rw9, .int k]))) : hv_Met l y_Marks_clear [Cond.code y_Marks_clear b_Marks_clear 1 none] (RM 0 0 0) b0 (Fa D cA) D CL [.ref x] f (fun v g => v = none ∧ g = hv_up f x (.inr (4, [.ref rw9, .int 0]))) (NX) := by
  refine hv_Met.of (own := "BoxPacker$Marks") (by decide) rfl (Nat.le_of_ble_eq_true rfl) ?_
  intro p e s m below meth c hE hml hout hr hlocks hname hK hI ls hl
  have hl : lv_has ls 1 [(0, .ref x)] := hl
  obtain ⟨hx, hb, hown, hts, hVK⟩ := id hE
  refine lv_aload_n hx hb d_Marks_clear_0 rfl (lv_at hl 0 rfl) ?_
  refine lv_iconst (v := 0) hx hb d_Marks_clear_1 (by decide) ?_
  refine hv_put hE k_Marks hI 1 (by decide) w36 hx0 rfl rfl rfl (Nat.le_of_ble_eq_true rfl) d_Marks_clear_2 (fun H locs hI => ?_)
  obtain ⟨g1, eg1⟩ : ∃ z : hv_M, z = hv_up f x (.inr (4, [.ref rw9, .int 0])) := ⟨_, rfl⟩
  have hI : hv_I D CL b0 g1 s.heap H locs := by rw [eg1]; exact hI
  have h2 : g1 x = some (.inr (4, [.ref rw9, .int 0])) := by rw [eg1]; exact hv_up_self _ _ _
  exact hv_vret hE hr hlocks hI hK (⟨rfl, by simp only [eg1]⟩) (by decide) (by decide) d_Marks_clear_5

set_option maxHeartbeats 4000000 in
set_option maxRecDepth 100000 in
theorem c_BP_items (l : Launch) (hl0 : l.stackTraces = false) (b0 : Nat) (D : va_G) (cA : Nat → ClassId) (f : hv_M) (x la ma mk n bn : Nat) (hx0 : f x = some (.inr (0, [.ref la, .int (nI n), .ref ma, .int (nI bn), .ref mk]))) : hv_Met l y_BP_items [Cond.code y_BP_items b_BP_items 1 (some FieldType.int)] (RM 0 0 0) b0 (Fa D cA) D CL [.ref x] f (PV f (some (.int (nI n)))) (NX) := by
  refine hv_Met.of (own := "BoxPacker") (by decide) rfl (Nat.le_of_ble_eq_true rfl) ?_
  intro p e s m below meth c hE hml hout hr hlocks hname hK hI ls hl
  have hl : lv_has ls 1 [(0, .ref x)] := hl
  obtain ⟨hx, hb, hown, hts, hVK⟩ := id hE
  refine lv_aload_n hx hb d_BP_items_0 rfl (lv_at hl 0 rfl) ?_
  refine hv_get hE k_BP hI 1 (by decide) w45 hx0 rfl d_BP_items_1 ?_
  exact hv_iret hE hr hlocks hI hK (v := nI n) (⟨rfl, rfl⟩) (by decide) (by decide) d_BP_items_4

set_option maxHeartbeats 4000000 in
set_option maxRecDepth 100000 in
theorem c_BP_boxes (l : Launch) (hl0 : l.stackTraces = false) (b0 : Nat) (D : va_G) (cA : Nat → ClassId) (f : hv_M) (x la ma mk n bn : Nat) (hx0 : f x = some (.inr (0, [.ref la, .int (nI n), .ref ma, .int (nI bn), .ref mk]))) : hv_Met l y_BP_boxes [Cond.code y_BP_boxes b_BP_boxes 1 (some FieldType.int)] (RM 0 0 0) b0 (Fa D cA) D CL [.ref x] f (PV f (some (.int (nI bn)))) (NX) := by
  refine hv_Met.of (own := "BoxPacker") (by decide) rfl (Nat.le_of_ble_eq_true rfl) ?_
  intro p e s m below meth c hE hml hout hr hlocks hname hK hI ls hl
  have hl : lv_has ls 1 [(0, .ref x)] := hl
  obtain ⟨hx, hb, hown, hts, hVK⟩ := id hE
  refine lv_aload_n hx hb d_BP_boxes_0 rfl (lv_at hl 0 rfl) ?_
  refine hv_get hE k_BP hI 3 (by decide) w47 hx0 rfl d_BP_boxes_1 ?_
  exact hv_iret hE hr hlocks hI hK (v := nI bn) (⟨rfl, rfl⟩) (by decide) (by decide) d_BP_boxes_4

set_option maxHeartbeats 4000000 in
set_option maxRecDepth 100000 in
theorem c_BP_keep (l : Launch) (hl0 : l.stackTraces = false) (b0 : Nat) (D : va_G) (cA : Nat → ClassId) (f : hv_M) (x la ma mk n bn : Nat) (k : Int32) (hx0 : f x = some (.inr (0, [.ref la, .int (nI n), .ref ma, .int (nI bn), .ref mk]))) : hv_Met l y_BP_keep [Cond.code y_BP_keep b_BP_keep 2 (some FieldType.boolean)] (RM 0 0 0) b0 (Fa D cA) D CL [.ref x, .int k] f (fun v g => (v = some (.int 0) ∧ g = f ∧ (k < 0 ∨ nI n < k)) ∨ (v = some (.int 1) ∧ g = hv_up f x (.inr (0, [.ref la, .int k, .ref ma, .int (nI bn), .ref mk])) ∧ ¬ k < 0 ∧ ¬ nI n < k)) (NX) := by
  refine hv_Met.of (own := "BoxPacker") (by decide) rfl (Nat.le_of_ble_eq_true rfl) ?_
  intro p e s m below meth c hE hml hout hr hlocks hname hK hI ls hl
  have hl : lv_has ls 2 [(0, .ref x), (1, .int k)] := hl
  obtain ⟨hx, hb, hown, hts, hVK⟩ := id hE
  refine lv_iload_n hx hb d_BP_keep_0 rfl (lv_at hl 1 rfl) ?_
  refine lv_if_lt (tgt := 12) hx hb d_BP_keep_1 (by decide) (fun c1 => ?_) (fun c1 => ?_)
  · skip
    refine lv_iconst (v := 0) hx hb d_BP_keep_12 (by decide) ?_
    exact hv_zret hE hr hlocks hI hK (v := 0) (by first | rfl | exact b2i_nar _) (Or.inl ⟨rfl, rfl, Or.inl c1⟩) (by decide) (by decide) d_BP_keep_13
  · skip
    refine lv_iload_n hx hb d_BP_keep_4 rfl (lv_at hl 1 rfl) ?_
    refine lv_aload_n hx hb d_BP_keep_5 rfl (lv_at hl 0 rfl) ?_
    refine hv_get hE k_BP hI 1 (by decide) w45 hx0 rfl d_BP_keep_6 ?_
    refine lv_icmp_le (tgt := 14) hx hb d_BP_keep_9 (by decide) (fun c9 => ?_) (fun c9 => ?_)
    · skip
      refine lv_aload_n hx hb d_BP_keep_14 rfl (lv_at hl 0 rfl) ?_
      refine lv_iload_n hx hb d_BP_keep_15 rfl (lv_at hl 1 rfl) ?_
      refine hv_put hE k_BP hI 1 (by decide) w45 hx0 rfl rfl rfl (Nat.le_of_ble_eq_true rfl) d_BP_keep_16 (fun H locs hI => ?_)
      obtain ⟨g1, eg1⟩ : ∃ z : hv_M, z = hv_up f x (.inr (0, [.ref la, .int k, .ref ma, .int (nI bn), .ref mk])) := ⟨_, rfl⟩
      have hI : hv_I D CL b0 g1 s.heap H locs := by rw [eg1]; exact hI
      have h2 : g1 x = some (.inr (0, [.ref la, .int k, .ref ma, .int (nI bn), .ref mk])) := by rw [eg1]; exact hv_up_self _ _ _
      refine lv_iconst (v := 1) hx hb d_BP_keep_19 (by decide) ?_
      exact hv_zret hE hr hlocks hI hK (v := 1) (by first | rfl | exact b2i_nar _) (Or.inr ⟨rfl, by simp only [eg1], c1, by simpa using c9⟩) (by decide) (by decide) d_BP_keep_20
    · skip
      refine lv_iconst (v := 0) hx hb d_BP_keep_12 (by decide) ?_
      exact hv_zret hE hr hlocks hI hK (v := 0) (by first | rfl | exact b2i_nar _) (Or.inl ⟨rfl, rfl, Or.inr (by simpa using c9)⟩) (by decide) (by decide) d_BP_keep_13
end
section
/-! ===== casts, Math ===== -/
section HVE
variable {p : Program} {l : Launch} {e : Env} {R : Room} {s : State} {m : MethodId} {args : Array Value} {below : List Frame} {meth : Method} {c : Code} {H : Heap} {locs : List Loc} {cells slots : Nat} {Q : State → Prop}
variable {cc : ByteArray} {pc index ci N a b0 : Nat} {ls : Array Slot} {rest : List Value} {D : va_G} {cA : Nat → ClassId} {f : hv_M} {own C nm : String} {T : u_T} {fs : List Value} {H0 : Heap}
theorem hv_instS (hE : hv_E p c cc s m args own TS D CL (TY cA)) (hI : hv_I D CL b0 f H0 H locs) (he : f a = some (.inr (ci, fs))) (hc : CL[ci]? = some (C, T, N)) (hl : Cond.classLink own index C ∈ TS) (hd : decode cc pc = .ok (.instanceof index, 3))
    (kk : W p l e R s m args below meth c H locs cells slots Q (F0 m (pc + 3) ls (.int 1 :: rest))) : W p l e R s m args below meth c H locs cells slots Q (F0 m pc ls (.ref a :: rest)) :=
  va_instS hE.1 hE.2.1 hE.2.2.1 (hE.2.2.2.1 _ hl) (hE.2.2.2.2.1 ci _ hc).2 (hv_recv hE hI he hc) hd kk
theorem hv_castS (hE : hv_E p c cc s m args own TS D CL (TY cA)) (hI : hv_I D CL b0 f H0 H locs) (he : f a = some (.inr (ci, fs))) (hc : CL[ci]? = some (C, T, N)) (hl : Cond.classLink own index C ∈ TS) (hd : decode cc pc = .ok (.checkcast index, 3))
    (kk : W p l e R s m args below meth c H locs cells slots Q (F0 m (pc + 3) ls (.ref a :: rest))) : W p l e R s m args below meth c H locs cells slots Q (F0 m pc ls (.ref a :: rest)) :=
  va_castS hE.1 hE.2.1 hE.2.2.1 (hE.2.2.2.1 _ hl) (hE.2.2.2.2.1 ci _ hc).2 (hv_recv hE hI he hc) hd kk
theorem hv_instN (hE : hv_E p c cc s m args own TS D CL (TY cA)) (hI : hv_I D CL b0 f H0 H locs) (hK : hv_KK b0 (Fa D cA) s) (he : f a = some (.inr (ci, fs))) (hc : CL[ci]? = some (C, T, N)) (hn : (C, nm) ∈ NC) (hl : Cond.classLink own index nm ∈ TS) (hd : decode cc pc = .ok (.instanceof index, 3))
    (kk : W p l e R s m args below meth c H locs cells slots Q (F0 m (pc + 3) ls (.int 0 :: rest))) : W p l e R s m args below meth c H locs cells slots Q (F0 m pc ls (.ref a :: rest)) :=
  va_instNo hE.1 hE.2.1 hE.2.2.1 (hE.2.2.2.1 _ hl) (hK.here.2.2.2.2 _ hn) (hv_recv hE hI he hc) hd kk
end HVE
/-! ===== what the boxes' methods reckon ===== -/
def mx (x y : Int32) : Int32 := if x < y then y else x
def jsum (x y : Int64) : Option Int32 := if sz (x + y) = true then some (x + y).toInt32 else none
theorem jsum_t {x y : Int64} (h : sz (x + y) = true) : jsum x y = some (x + y).toInt32 := if_pos h
theorem jsum_f {x y : Int64} (h : ¬ sz (x + y) = true) : jsum x y = none := if_neg h
/-- an item as its cell shows it: solid (tag, width, height, depth, inner box, shift) or space (width, stretch, its order, shrink, its order) -/
abbrev It : Type := (Int32 × Int32 × Int32 × Int32 × Option Nat × Int32) ⊕ (Int32 × Int32 × Int32 × Int32 × Int32)
def itE : It → va_E
  | .inl (t, w, h, d, q, z) => .inr (2, [.int t, .int w, .int h, .int d, va_rf q, .int z])
  | .inr (w, a, b, d, z) => .inr (3, [.int w, .int a, .int b, .int d, .int z])
/-- measureAlong from item i on, k items: width, height, depth and places -/
def alongF (iv : Nat → It) : Nat → Nat → Int32 → Int32 → Int32 → (Nat → Int32) → Option (Int32 × Int32 × Int32 × (Nat → Int32))
  | 0, _, w, h, d, gp => some (w, h, d, gp)
  | k + 1, i, w, h, d, gp => match iv i with
    | .inl (_, iw, ih, id9, _, z) => (jsum w.toInt64 (kn iw 0).toInt64).bind fun w1 => (jsum (kn ih 0).toInt64 (-z).toInt64).bind fun h1 => (jsum (kn id9 0).toInt64 z.toInt64).bind fun d1 =>
        alongF iv k (i + 1) w1 (mx h h1) (mx d d1) (upd gp i w)
    | .inr (iw, _, _, _, _) => (jsum w.toInt64 iw.toInt64).bind fun w1 => alongF iv k (i + 1) w1 h d (upd gp i w)
/-- the items of a list lie in the picture -/
def itsAt (f : hv_M) (n : Nat) (gc : Nat → Option Nat) (iv : Nat → It) : Prop := ∀ i, i < n → ∃ q, gc i = some q ∧ f q = some (itE (iv i))
end
section
set_option maxHeartbeats 4000000 in
set_option maxRecDepth 100000 in
theorem c_BP_sumR (l : Launch) (hl0 : l.stackTraces = false) (b0 : Nat) (D : va_G) (cA : Nat → ClassId) (f : hv_M) (x y : Int64) (hz : sz (x + y) = true) : hv_Met l y_BP_sum [Cond.code y_BP_sum b_BP_sum 6 (some FieldType.int)] (RM 1 0 0) b0 (Fa D cA) D CL [.long x, .long y] f (PV f (some (.int (x + y).toInt32))) (NX) := by
  refine hv_Met.of (own := "BoxPacker") (by decide) rfl (Nat.le_of_ble_eq_true rfl) ?_
  intro p e s m below meth c hE hml hout hr hlocks hname hK hI ls hl
  have hl : lv_has ls 6 [(0, .long x), (2, .long y)] := hl
  obtain ⟨hx, hb, hown, hts, hVK⟩ := id hE
  refine lv_lload_n hx hb d_BP_sum_0 rfl (lv_at hl 0 rfl) ?_
  refine lv_lload_n hx hb d_BP_sum_1 rfl (lv_at hl 1 rfl) ?_
  refine lv_ladd hx hb d_BP_sum_2 ?_
  refine lv_lstore (lv' := [(4, .long (x + y)), (0, .long x), (2, .long y)]) hx hb d_BP_sum_3 hl (by decide) rfl (fun ls hl => ?_)
  refine lv_lload hx hb d_BP_sum_5 (lv_at hl 0 rfl) ?_
  refine hv_Sp (As := [.long (x + y)]) (rest := []) hE hml hK hI (c_BP_isSize l hl0 b0 D cA f (x + y)) cd_BP_isSize w151 w152 rfl rfl rfl hl.1 (Nat.le_of_ble_eq_true rfl) d_BP_sum_7 ⟨by decide, by decide⟩ ⟨by decide, by decide⟩ (fun H locs hI => ?_)
  refine W.eq (g2 := F0 m 10 ls [.int (b2i (sz (x + y)))]) rfl ?_
  refine lv_if_ne (tgt := 23) hx hb d_BP_sum_10 (by decide) (fun c10 => ?_) (fun c10 => ?_)
  · skip
    refine lv_lload hx hb d_BP_sum_23 (lv_at hl 0 rfl) ?_
    refine lv_l2i (v := (x + y).toInt32) hx hb d_BP_sum_25 rfl ?_
    exact hv_iret hE hr hlocks hI hK (v := (x + y).toInt32) (⟨rfl, rfl⟩) (by decide) (by decide) d_BP_sum_26
  · skip
    exact absurd c10 (by rw [hz]; decide)

set_option maxHeartbeats 4000000 in
set_option maxRecDepth 100000 in
theorem c_BP_sumX (l : Launch) (hl0 : l.stackTraces = false) (b0 : Nat) (D : va_G) (cA : Nat → ClassId) (f : hv_M) (x y : Int64) (hz : ¬ sz (x + y) = true) : hv_Met l y_BP_sum [Cond.code y_BP_sum b_BP_sum 6 (some FieldType.int)] (RM 1 1 6) b0 (Fa D cA) D CL [.long x, .long y] f (fun _ _ => False) (TX1 "java/lang/IllegalStateException" f True) := by
  refine hv_Met.of (own := "BoxPacker") (by decide) rfl (Nat.le_of_ble_eq_true rfl) ?_
  intro p e s m below meth c hE hml hout hr hlocks hname hK hI ls hl
  have hl : lv_has ls 6 [(0, .long x), (2, .long y)] := hl
  obtain ⟨hx, hb, hown, hts, hVK⟩ := id hE
  refine lv_lload_n hx hb d_BP_sum_0 rfl (lv_at hl 0 rfl) ?_
  refine lv_lload_n hx hb d_BP_sum_1 rfl (lv_at hl 1 rfl) ?_
  refine lv_ladd hx hb d_BP_sum_2 ?_
  refine lv_lstore (lv' := [(4, .long (x + y)), (0, .long x), (2, .long y)]) hx hb d_BP_sum_3 hl (by decide) rfl (fun ls hl => ?_)
  refine lv_lload hx hb d_BP_sum_5 (lv_at hl 0 rfl) ?_
  refine hv_Sp (As := [.long (x + y)]) (rest := []) hE hml hK hI (c_BP_isSize l hl0 b0 D cA f (x + y)) cd_BP_isSize w151 w152 rfl rfl rfl hl.1 (Nat.le_of_ble_eq_true rfl) d_BP_sum_7 ⟨by decide, by decide⟩ ⟨by decide, by decide⟩ (fun H locs hI => ?_)
  refine W.eq (g2 := F0 m 10 ls [.int (b2i (sz (x + y)))]) rfl ?_
  refine lv_if_ne (tgt := 23) hx hb d_BP_sum_10 (by decide) (fun c10 => ?_) (fun c10 => ?_)
  · skip
    exact absurd (by cases h9 : sz (x + y) with | true => exact absurd h9 hz | false => rfl) c10
  · skip
    exact hv_throw hE hl0 (cls := "java/lang/IllegalStateException") (text := "a sum of sizes is no size") (names := NMS) (by decide) (by decide) hI hK (hv_thr tw_ISE (by decide)) (by rw [hml]; exact hl.1) d_BP_sum_13 d_BP_sum_16 d_BP_sum_17 d_BP_sum_19 d_BP_sum_22 hout (by decide) (by decide) hlocks (⟨rfl, rfl, trivial⟩) (by decide) (by decide) (by decide) (by decide)
end
section
set_option maxHeartbeats 4000000 in
set_option maxRecDepth 100000 in
theorem c_Box_measureAlong (l : Launch) (hl0 : l.stackTraces = false) (b0 : Nat) (D : va_G) (cA : Nat → ClassId) (f : hv_M) (bx ca pa n : Nat) (bel dp al ex od to ov : Int32) (gc : Nat → Option Nat) (gp0 : Nat → Int32) (iv : Nat → It) (hbx : f bx = some (.inr (1, [.int bel, .ref ca, .ref pa, .int dp, .int al, .int 0, .int 0, .int 0, .int ex, .int od, .int to, .int ov]))) (hca : f ca = some (.inl (cA 3, n, .inr (.inr (.inr (.inr gc)))))) (hpa : f pa = some (.inl (cA 0, n, .inl gp0))) (hit : itsAt f n gc iv) (hn : n ≤ 100) : hv_Met l y_Box_measureAlong [Cond.code y_Box_measureAlong b_Box_measureAlong 5 none] (RM 3 1 6) b0 (Fa D cA) D CL [.ref bx] f (fun v g => v = none ∧ ∃ (w h d : Int32) (gp : Nat → Int32), alongF iv n 0 0 0 0 gp0 = some (w, h, d, gp) ∧ g bx = some (.inr (1, [.int bel, .ref ca, .ref pa, .int dp, .int al, .int w, .int h, .int d, .int ex, .int od, .int to, .int ov])) ∧ g pa = some (.inl (cA 0, n, .inl gp)) ∧ ∀ z, z ≠ bx → z ≠ pa → g z = f z) (fun E g => E = "java/lang/IllegalStateException" ∧ alongF iv n 0 0 0 0 gp0 = none ∧ ∀ z, z ≠ bx → z ≠ pa → g z = f z) := by
  refine hv_Met.of (own := "BoxPacker$Box") (by decide) rfl (Nat.le_of_ble_eq_true rfl) ?_
  intro p e s m below meth c hE hml hout hr hlocks hname hK hI ls hl
  have hl : lv_has ls 5 [(0, .ref bx)] := hl
  obtain ⟨hx, hb, hown, hts, hVK⟩ := id hE
  refine lv_iconst (v := 0) hx hb d_Box_measureAlong_0 (by decide) ?_
  refine lv_istore_n (lv' := [(1, .int 0), (0, .ref bx)]) hx hb d_Box_measureAlong_1 rfl hl (by decide) rfl (fun ls hl => ?_)
  have loop : ∀ (k i : Nat) (w h d : Int32) (gp : Nat → Int32) (g : hv_M) (H : Heap) (locs : List Loc) (ls : Array Slot), i + k = n → g bx = some (.inr (1, [.int bel, .ref ca, .ref pa, .int dp, .int al, .int w, .int h, .int d, .int ex, .int od, .int to, .int ov])) → g pa = some (.inl (cA 0, n, .inl gp)) → (∀ z, z ≠ bx → z ≠ pa → g z = f z) → alongF iv k i w h d gp = alongF iv n 0 0 0 0 gp0 → hv_I D CL b0 g s.heap H locs → lv_has ls 5 [(0, .ref bx), (1, .int (nI i))] → W p l e (RM 3 1 6) s m ([.ref bx] : List Value).toArray below meth c H locs 0 0 (xh_MQ below (hv_Q b0 (Fa D cA) D CL (fun v g => v = none ∧ ∃ (w h d : Int32) (gp : Nat → Int32), alongF iv n 0 0 0 0 gp0 = some (w, h, d, gp) ∧ g bx = some (.inr (1, [.int bel, .ref ca, .ref pa, .int dp, .int al, .int w, .int h, .int d, .int ex, .int od, .int to, .int ov])) ∧ g pa = some (.inl (cA 0, n, .inl gp)) ∧ ∀ z, z ≠ bx → z ≠ pa → g z = f z) (fun E g => E = "java/lang/IllegalStateException" ∧ alongF iv n 0 0 0 0 gp0 = none ∧ ∀ z, z ≠ bx → z ≠ pa → g z = f z)) s 1 6 (fun q => b0 ≤ q)) (F0 m 2 ls []) := by
    intro k
    induction k with
    | zero =>
      intro i w h d gp g H locs ls hik hgb hgp hfo heq hI hl
      have hgc : g ca = some (.inl (cA 3, n, .inr (.inr (.inr (.inr gc))))) := by rw [hfo ca (hv_ne hca hbx (by simp)) (hv_ne hca hpa (by simp))]; exact hca
      refine lv_iload_n hx hb d_Box_measureAlong_2 rfl (lv_at hl 1 rfl) ?_
      refine lv_aload_n hx hb d_Box_measureAlong_3 rfl (lv_at hl 0 rfl) ?_
      refine hv_get hE k_Box hI 1 (by decide) w331 hgb rfl d_Box_measureAlong_4 ?_
      refine hv_alen hE hI 3 hgc rfl (z := nI n) rfl d_Box_measureAlong_7 ?_
      refine lv_icmp_ge (tgt := 166) hx hb d_Box_measureAlong_8 (by decide) (fun c8 => ?_) (fun c8 => ?_)
      · skip
        exact hv_vret hE hr hlocks hI hK (⟨rfl, w, h, d, gp, heq.symm, hgb, hgp, hfo⟩) (by decide) (by decide) d_Box_measureAlong_166
      · skip
        exact absurd (nI_le (by omega) (by omega)) c8
    | succ k ih =>
      intro i w h d gp g H locs ls hik hgb hgp hfo heq hI hl
      have hgc : g ca = some (.inl (cA 3, n, .inr (.inr (.inr (.inr gc))))) := by rw [hfo ca (hv_ne hca hbx (by simp)) (hv_ne hca hpa (by simp))]; exact hca
      obtain ⟨q, hq1, hq2⟩ := hit i (by omega)
      rcases hiv : iv i with ⟨t, iw, ih9, id9, inn, z9⟩ | ⟨iw, a9, b9, c9, e9⟩
      · rw [hiv] at hq2
        have hgq : g q = some (.inr (2, [.int t, .int iw, .int ih9, .int id9, va_rf inn, .int z9])) := by rw [hfo q (hv_ne hq2 hbx (by simp [itE])) (hv_ne hq2 hpa (by simp [itE]))]; exact hq2
        refine lv_iload_n hx hb d_Box_measureAlong_2 rfl (lv_at hl 1 rfl) ?_
        refine lv_aload_n hx hb d_Box_measureAlong_3 rfl (lv_at hl 0 rfl) ?_
        refine hv_get hE k_Box hI 1 (by decide) w331 hgb rfl d_Box_measureAlong_4 ?_
        refine hv_alen hE hI 3 hgc rfl (z := nI n) rfl d_Box_measureAlong_7 ?_
        refine lv_icmp_ge (tgt := 166) hx hb d_Box_measureAlong_8 (by decide) (fun c8 => ?_) (fun c8 => ?_)
        · skip
          exact absurd c8 (nI_ge (by omega) (by omega))
        · skip
          refine lv_aload_n hx hb d_Box_measureAlong_11 rfl (lv_at hl 0 rfl) ?_
          refine hv_get hE k_Box hI 2 (by decide) w333 hgb rfl d_Box_measureAlong_12 ?_
          refine lv_iload_n hx hb d_Box_measureAlong_15 rfl (lv_at hl 1 rfl) ?_
          refine lv_aload_n hx hb d_Box_measureAlong_16 rfl (lv_at hl 0 rfl) ?_
          refine hv_get hE k_Box hI 5 (by decide) w339 hgb rfl d_Box_measureAlong_17 ?_
          refine hv_iast hE hI 0 hgp rfl (pk_in i n (by omega) rfl (by omega)) d_Box_measureAlong_20 (fun H locs hI => ?_)
          rw [nI_cl (by omega)] at hI
          obtain ⟨g1, eg1⟩ : ∃ z : hv_M, z = hv_up g pa (.inl (cA 0, n, .inl (upd gp i w))) := ⟨_, rfl⟩
          have hI : hv_I D CL b0 g1 s.heap H locs := by rw [eg1]; exact hI
          have h2 : g1 bx = some (.inr (1, [.int bel, .ref ca, .ref pa, .int dp, .int al, .int w, .int h, .int d, .int ex, .int od, .int to, .int ov])) := by rw [eg1]; rw [hv_up_ne _ _ (hv_ne hgb hgp (by simp))]; exact hgb
          have h3 : g1 pa = some (.inl (cA 0, n, .inl (upd gp i w))) := by rw [eg1]; exact hv_up_self _ _ _
          have h4 : g1 ca = some (.inl (cA 3, n, .inr (.inr (.inr (.inr gc))))) := by rw [eg1]; rw [hv_up_ne _ _ (hv_ne hgc hgp (by simp))]; exact hgc
          have h5 : g1 q = some (.inr (2, [.int t, .int iw, .int ih9, .int id9, va_rf inn, .int z9])) := by rw [eg1]; rw [hv_up_ne _ _ (hv_ne hgq hgp (by simp))]; exact hgq
          refine lv_aload_n hx hb d_Box_measureAlong_21 rfl (lv_at hl 0 rfl) ?_
          refine hv_get hE k_Box hI 1 (by decide) w331 h2 rfl d_Box_measureAlong_22 ?_
          refine lv_iload_n hx hb d_Box_measureAlong_25 rfl (lv_at hl 1 rfl) ?_
          refine hv_aald hE hI 3 h4 rfl (pk_in i n (by omega) rfl (by omega)) d_Box_measureAlong_26 ?_
          rw [nI_cl (by omega)]
          rw [hq1]
          refine W.eq (g2 := F0 m 27 ls [.ref q]) rfl ?_
          refine lv_astore (lv' := [(4, .ref q), (0, .ref bx), (1, .int (nI i))]) hx hb d_Box_measureAlong_27 hl (by decide) rfl (fun ls hl => ?_)
          refine lv_aload hx hb d_Box_measureAlong_29 (lv_at hl 0 rfl) ?_
          refine hv_instS hE hI h5 rfl w321 d_Box_measureAlong_31 ?_
          refine lv_if_eq (tgt := 121) hx hb d_Box_measureAlong_34 (by decide) (fun c34 => ?_) (fun c34 => ?_)
          · skip
            exact absurd c34 (by decide)
          · skip
            refine lv_aload hx hb d_Box_measureAlong_37 (lv_at hl 0 rfl) ?_
            refine hv_castS hE hI h5 rfl w321 d_Box_measureAlong_39 ?_
            refine lv_astore_n (lv' := [(2, .ref q), (4, .ref q), (0, .ref bx), (1, .int (nI i))]) hx hb d_Box_measureAlong_42 rfl hl (by decide) rfl (fun ls hl => ?_)
            refine lv_aload_n hx hb d_Box_measureAlong_43 rfl (lv_at hl 2 rfl) ?_
            refine lv_aload_n hx hb d_Box_measureAlong_44 rfl (lv_at hl 2 rfl) ?_
            refine hv_get hE k_Box hI 5 (by decide) w339 h2 rfl d_Box_measureAlong_45 ?_
            refine lv_i2l (v := w.toInt64) hx hb d_Box_measureAlong_48 rfl ?_
            refine lv_aload_n hx hb d_Box_measureAlong_49 rfl (lv_at hl 0 rfl) ?_
            refine hv_getN hE k_Solid hI 1 (by decide) w189 h5 rfl d_Box_measureAlong_50 ?_
            refine hv_SNp (As := [.int iw]) (rest := [.long w.toInt64, .ref bx]) hE hml hK hI (c_BP_known1 l hl0 b0 D cA g1 iw) cd_BP_known1 w407 w408 rfl rfl rfl hl.1 (Nat.le_of_ble_eq_true rfl) d_Box_measureAlong_53 ⟨by decide, by decide⟩ ⟨by decide, by decide⟩ (fun H locs hI => ?_)
            refine W.eq (g2 := F0 m 56 ls [.int (kn iw 0), .long w.toInt64, .ref bx]) rfl ?_
            refine lv_i2l (v := (kn iw 0).toInt64) hx hb d_Box_measureAlong_56 rfl ?_
            by_cases hz57 : sz (w.toInt64 + ((kn iw 0).toInt64)) = true
            rotate_left
            · refine hv_SN (As := [.long w.toInt64, .long ((kn iw 0).toInt64)]) (rest := [.ref bx]) hE hml hK hI (c_BP_sumX l hl0 b0 D cA g1 w.toInt64 ((kn iw 0).toInt64) hz57) cd_BP_sum w388 w389 rfl hl.1 (Nat.le_of_ble_eq_true rfl) d_Box_measureAlong_57 ⟨by decide, by decide⟩ ⟨by decide, by decide⟩ (fun v9 g9 H locs hp hI => hp.elim) (fun q9 E9 ce9 g9 H locs hp hI hce hcv hcl => ?_)
              obtain ⟨hE9, hg9, -⟩ := hp
              rw [hg9] at hI
              rw [hE9] at hcl
              exact hv_out hout hlocks hI hK hce hcv hcl (⟨rfl, by rw [← heq]; simp [alongF, hiv, jsum_f hz57], fun z z1 z2 => by rw [eg1, hv_up_ne _ _ z2]; exact hfo z z1 z2⟩) (by decide) (by decide)
            refine hv_SNp (As := [.long w.toInt64, .long ((kn iw 0).toInt64)]) (rest := [.ref bx]) hE hml hK hI (c_BP_sumR l hl0 b0 D cA g1 w.toInt64 ((kn iw 0).toInt64) hz57) cd_BP_sum w388 w389 rfl rfl rfl hl.1 (Nat.le_of_ble_eq_true rfl) d_Box_measureAlong_57 ⟨by decide, by decide⟩ ⟨by decide, by decide⟩ (fun H locs hI => ?_)
            refine W.eq (g2 := F0 m 60 ls [.int ((w.toInt64 + ((kn iw 0).toInt64)).toInt32), .ref bx]) rfl ?_
            refine hv_put hE k_Box hI 5 (by decide) w339 h2 rfl rfl rfl (Nat.le_of_ble_eq_true rfl) d_Box_measureAlong_60 (fun H locs hI => ?_)
            obtain ⟨g6, eg6⟩ : ∃ z : hv_M, z = hv_up g1 bx (.inr (1, [.int bel, .ref ca, .ref pa, .int dp, .int al, .int ((w.toInt64 + ((kn iw 0).toInt64)).toInt32), .int h, .int d, .int ex, .int od, .int to, .int ov])) := ⟨_, rfl⟩
            have hI : hv_I D CL b0 g6 s.heap H locs := by rw [eg6]; exact hI
            have h7 : g6 bx = some (.inr (1, [.int bel, .ref ca, .ref pa, .int dp, .int al, .int ((w.toInt64 + ((kn iw 0).toInt64)).toInt32), .int h, .int d, .int ex, .int od, .int to, .int ov])) := by rw [eg6]; exact hv_up_self _ _ _
            have h8 : g6 pa = some (.inl (cA 0, n, .inl (upd gp i w))) := by rw [eg6]; rw [hv_up_ne _ _ (hv_ne h3 h2 (by simp))]; exact h3
            have h9 : g6 ca = some (.inl (cA 3, n, .inr (.inr (.inr (.inr gc))))) := by rw [eg6]; rw [hv_up_ne _ _ (hv_ne h4 h2 (by simp))]; exact h4
            have h10 : g6 q = some (.inr (2, [.int t, .int iw, .int ih9, .int id9, va_rf inn, .int z9])) := by rw [eg6]; rw [hv_up_ne _ _ (hv_ne h5 h2 (by simp))]; exact h5
            refine lv_aload_n hx hb d_Box_measureAlong_63 rfl (lv_at hl 2 rfl) ?_
            refine lv_aload_n hx hb d_Box_measureAlong_64 rfl (lv_at hl 2 rfl) ?_
            refine hv_get hE k_Box hI 6 (by decide) w341 h7 rfl d_Box_measureAlong_65 ?_
            refine lv_aload_n hx hb d_Box_measureAlong_68 rfl (lv_at hl 0 rfl) ?_
            refine hv_getN hE k_Solid hI 2 (by decide) w192 h10 rfl d_Box_measureAlong_69 ?_
            refine hv_SNp (As := [.int ih9]) (rest := [.int h, .ref bx]) hE hml hK hI (c_BP_known1 l hl0 b0 D cA g6 ih9) cd_BP_known1 w407 w408 rfl rfl rfl hl.1 (Nat.le_of_ble_eq_true rfl) d_Box_measureAlong_72 ⟨by decide, by decide⟩ ⟨by decide, by decide⟩ (fun H locs hI => ?_)
            refine W.eq (g2 := F0 m 75 ls [.int (kn ih9 0), .int h, .ref bx]) rfl ?_
            refine lv_i2l (v := (kn ih9 0).toInt64) hx hb d_Box_measureAlong_75 rfl ?_
            refine lv_aload_n hx hb d_Box_measureAlong_76 rfl (lv_at hl 0 rfl) ?_
            refine hv_getN hE k_Solid hI 5 (by decide) w201 h10 rfl d_Box_measureAlong_77 ?_
            refine lv_ineg hx hb d_Box_measureAlong_80 ?_
            refine lv_i2l (v := (-z9).toInt64) hx hb d_Box_measureAlong_81 rfl ?_
            by_cases hz82 : sz (((kn ih9 0).toInt64) + ((-z9).toInt64)) = true
            rotate_left
            · refine hv_SN (As := [.long ((kn ih9 0).toInt64), .long ((-z9).toInt64)]) (rest := [.int h, .ref bx]) hE hml hK hI (c_BP_sumX l hl0 b0 D cA g6 ((kn ih9 0).toInt64) ((-z9).toInt64) hz82) cd_BP_sum w388 w389 rfl hl.1 (Nat.le_of_ble_eq_true rfl) d_Box_measureAlong_82 ⟨by decide, by decide⟩ ⟨by decide, by decide⟩ (fun v9 g9 H locs hp hI => hp.elim) (fun q9 E9 ce9 g9 H locs hp hI hce hcv hcl => ?_)
              obtain ⟨hE9, hg9, -⟩ := hp
              rw [hg9] at hI
              rw [hE9] at hcl
              exact hv_out hout hlocks hI hK hce hcv hcl (⟨rfl, by rw [← heq]; simp [alongF, hiv, jsum_t hz57, jsum_f hz82], fun z z1 z2 => by rw [eg6, hv_up_ne _ _ z1, eg1, hv_up_ne _ _ z2]; exact hfo z z1 z2⟩) (by decide) (by decide)
            refine hv_SNp (As := [.long ((kn ih9 0).toInt64), .long ((-z9).toInt64)]) (rest := [.int h, .ref bx]) hE hml hK hI (c_BP_sumR l hl0 b0 D cA g6 ((kn ih9 0).toInt64) ((-z9).toInt64) hz82) cd_BP_sum w388 w389 rfl rfl rfl hl.1 (Nat.le_of_ble_eq_true rfl) d_Box_measureAlong_82 ⟨by decide, by decide⟩ ⟨by decide, by decide⟩ (fun H locs hI => ?_)
            refine W.eq (g2 := F0 m 85 ls [.int ((((kn ih9 0).toInt64) + ((-z9).toInt64)).toInt32), .int h, .ref bx]) rfl ?_
            refine va_mmax hx hb (hml.trans hl.1.symm) hown (hts _ w322) (hts _ w323) (hts _ w14) (hts _ w324) (by decide) (Nat.le_of_ble_eq_true rfl) (by decide) (by decide) d_Box_measureAlong_85 ?_
            refine W.eq (g2 := F0 m 88 ls [.int (mx h ((((kn ih9 0).toInt64) + ((-z9).toInt64)).toInt32)), .ref bx]) rfl ?_
            refine hv_put hE k_Box hI 6 (by decide) w341 h7 rfl rfl rfl (Nat.le_of_ble_eq_true rfl) d_Box_measureAlong_88 (fun H locs hI => ?_)
            obtain ⟨g11, eg11⟩ : ∃ z : hv_M, z = hv_up g6 bx (.inr (1, [.int bel, .ref ca, .ref pa, .int dp, .int al, .int ((w.toInt64 + ((kn iw 0).toInt64)).toInt32), .int (mx h ((((kn ih9 0).toInt64) + ((-z9).toInt64)).toInt32)), .int d, .int ex, .int od, .int to, .int ov])) := ⟨_, rfl⟩
            have hI : hv_I D CL b0 g11 s.heap H locs := by rw [eg11]; exact hI
            have h12 : g11 bx = some (.inr (1, [.int bel, .ref ca, .ref pa, .int dp, .int al, .int ((w.toInt64 + ((kn iw 0).toInt64)).toInt32), .int (mx h ((((kn ih9 0).toInt64) + ((-z9).toInt64)).toInt32)), .int d, .int ex, .int od, .int to, .int ov])) := by rw [eg11]; exact hv_up_self _ _ _
            have h13 : g11 pa = some (.inl (cA 0, n, .inl (upd gp i w))) := by rw [eg11]; rw [hv_up_ne _ _ (hv_ne h8 h7 (by simp))]; exact h8
            have h14 : g11 ca = some (.inl (cA 3, n, .inr (.inr (.inr (.inr gc))))) := by rw [eg11]; rw [hv_up_ne _ _ (hv_ne h9 h7 (by simp))]; exact h9
            have h15 : g11 q = some (.inr (2, [.int t, .int iw, .int ih9, .int id9, va_rf inn, .int z9])) := by rw [eg11]; rw [hv_up_ne _ _ (hv_ne h10 h7 (by simp))]; exact h10
            refine lv_aload_n hx hb d_Box_measureAlong_91 rfl (lv_at hl 2 rfl) ?_
            refine lv_aload_n hx hb d_Box_measureAlong_92 rfl (lv_at hl 2 rfl) ?_
            refine hv_get hE k_Box hI 7 (by decide) w343 h12 rfl d_Box_measureAlong_93 ?_
            refine lv_aload_n hx hb d_Box_measureAlong_96 rfl (lv_at hl 0 rfl) ?_
            refine hv_getN hE k_Solid hI 3 (by decide) w195 h15 rfl d_Box_measureAlong_97 ?_
            refine hv_SNp (As := [.int id9]) (rest := [.int d, .ref bx]) hE hml hK hI (c_BP_known1 l hl0 b0 D cA g11 id9) cd_BP_known1 w407 w408 rfl rfl rfl hl.1 (Nat.le_of_ble_eq_true rfl) d_Box_measureAlong_100 ⟨by decide, by decide⟩ ⟨by decide, by decide⟩ (fun H locs hI => ?_)
            refine W.eq (g2 := F0 m 103 ls [.int (kn id9 0), .int d, .ref bx]) rfl ?_
            refine lv_i2l (v := (kn id9 0).toInt64) hx hb d_Box_measureAlong_103 rfl ?_
            refine lv_aload_n hx hb d_Box_measureAlong_104 rfl (lv_at hl 0 rfl) ?_
            refine hv_getN hE k_Solid hI 5 (by decide) w201 h15 rfl d_Box_measureAlong_105 ?_
            refine lv_i2l (v := z9.toInt64) hx hb d_Box_measureAlong_108 rfl ?_
            by_cases hz109 : sz (((kn id9 0).toInt64) + z9.toInt64) = true
            rotate_left
            · refine hv_SN (As := [.long ((kn id9 0).toInt64), .long z9.toInt64]) (rest := [.int d, .ref bx]) hE hml hK hI (c_BP_sumX l hl0 b0 D cA g11 ((kn id9 0).toInt64) z9.toInt64 hz109) cd_BP_sum w388 w389 rfl hl.1 (Nat.le_of_ble_eq_true rfl) d_Box_measureAlong_109 ⟨by decide, by decide⟩ ⟨by decide, by decide⟩ (fun v9 g9 H locs hp hI => hp.elim) (fun q9 E9 ce9 g9 H locs hp hI hce hcv hcl => ?_)
              obtain ⟨hE9, hg9, -⟩ := hp
              rw [hg9] at hI
              rw [hE9] at hcl
              exact hv_out hout hlocks hI hK hce hcv hcl (⟨rfl, by rw [← heq]; simp [alongF, hiv, jsum_t hz57, jsum_t hz82, jsum_f hz109], fun z z1 z2 => by rw [eg11, hv_up_ne _ _ z1, eg6, hv_up_ne _ _ z1, eg1, hv_up_ne _ _ z2]; exact hfo z z1 z2⟩) (by decide) (by decide)
            refine hv_SNp (As := [.long ((kn id9 0).toInt64), .long z9.toInt64]) (rest := [.int d, .ref bx]) hE hml hK hI (c_BP_sumR l hl0 b0 D cA g11 ((kn id9 0).toInt64) z9.toInt64 hz109) cd_BP_sum w388 w389 rfl rfl rfl hl.1 (Nat.le_of_ble_eq_true rfl) d_Box_measureAlong_109 ⟨by decide, by decide⟩ ⟨by decide, by decide⟩ (fun H locs hI => ?_)
            refine W.eq (g2 := F0 m 112 ls [.int ((((kn id9 0).toInt64) + z9.toInt64).toInt32), .int d, .ref bx]) rfl ?_
            refine va_mmax hx hb (hml.trans hl.1.symm) hown (hts _ w322) (hts _ w323) (hts _ w14) (hts _ w324) (by decide) (Nat.le_of_ble_eq_true rfl) (by decide) (by decide) d_Box_measureAlong_112 ?_
            refine W.eq (g2 := F0 m 115 ls [.int (mx d ((((kn id9 0).toInt64) + z9.toInt64).toInt32)), .ref bx]) rfl ?_
            refine hv_put hE k_Box hI 7 (by decide) w343 h12 rfl rfl rfl (Nat.le_of_ble_eq_true rfl) d_Box_measureAlong_115 (fun H locs hI => ?_)
            obtain ⟨g16, eg16⟩ : ∃ z : hv_M, z = hv_up g11 bx (.inr (1, [.int bel, .ref ca, .ref pa, .int dp, .int al, .int ((w.toInt64 + ((kn iw 0).toInt64)).toInt32), .int (mx h ((((kn ih9 0).toInt64) + ((-z9).toInt64)).toInt32)), .int (mx d ((((kn id9 0).toInt64) + z9.toInt64).toInt32)), .int ex, .int od, .int to, .int ov])) := ⟨_, rfl⟩
            have hI : hv_I D CL b0 g16 s.heap H locs := by rw [eg16]; exact hI
            have h17 : g16 bx = some (.inr (1, [.int bel, .ref ca, .ref pa, .int dp, .int al, .int ((w.toInt64 + ((kn iw 0).toInt64)).toInt32), .int (mx h ((((kn ih9 0).toInt64) + ((-z9).toInt64)).toInt32)), .int (mx d ((((kn id9 0).toInt64) + z9.toInt64).toInt32)), .int ex, .int od, .int to, .int ov])) := by rw [eg16]; exact hv_up_self _ _ _
            have h18 : g16 pa = some (.inl (cA 0, n, .inl (upd gp i w))) := by rw [eg16]; rw [hv_up_ne _ _ (hv_ne h13 h12 (by simp))]; exact h13
            have h19 : g16 ca = some (.inl (cA 3, n, .inr (.inr (.inr (.inr gc))))) := by rw [eg16]; rw [hv_up_ne _ _ (hv_ne h14 h12 (by simp))]; exact h14
            have h20 : g16 q = some (.inr (2, [.int t, .int iw, .int ih9, .int id9, va_rf inn, .int z9])) := by rw [eg16]; rw [hv_up_ne _ _ (hv_ne h15 h12 (by simp))]; exact h15
            refine lv_goto (tgt := 160) hx hb d_Box_measureAlong_118 (by decide) ?_
            obtain ⟨v21, ev21⟩ : ∃ y : Int32, y = (nI i) + 1 := ⟨_, rfl⟩
            refine lv_iinc (v := v21) (lv' := [(1, .int v21), (2, .ref q), (4, .ref q), (0, .ref bx)]) hx hb d_Box_measureAlong_160 hl (k := 3) rfl (by rw [ev21]; rfl) (by decide) rfl (fun ls hl => ?_)
            refine lv_goto (tgt := 2) hx hb d_Box_measureAlong_163 (by decide) ?_
            exact ih (i + 1) ((w.toInt64 + ((kn iw 0).toInt64)).toInt32) (mx h ((((kn ih9 0).toInt64) + ((-z9).toInt64)).toInt32)) (mx d ((((kn id9 0).toInt64) + z9.toInt64).toInt32)) _ _ _ _ ls (by omega) h17 h18 (fun z z1 z2 => by rw [eg16, hv_up_ne _ _ z1, eg11, hv_up_ne _ _ z1, eg6, hv_up_ne _ _ z1, eg1, hv_up_ne _ _ z2]; exact hfo z z1 z2) (by rw [← heq]; simp [alongF, hiv, jsum_t hz57, jsum_t hz82, jsum_t hz109]) hI (by rw [← nI_1, ← ev21]; exact lv_sub hl [3, 0] rfl)
      · rw [hiv] at hq2
        have hgq : g q = some (.inr (3, [.int iw, .int a9, .int b9, .int c9, .int e9])) := by rw [hfo q (hv_ne hq2 hbx (by simp [itE])) (hv_ne hq2 hpa (by simp [itE]))]; exact hq2
        refine lv_iload_n hx hb d_Box_measureAlong_2 rfl (lv_at hl 1 rfl) ?_
        refine lv_aload_n hx hb d_Box_measureAlong_3 rfl (lv_at hl 0 rfl) ?_
        refine hv_get hE k_Box hI 1 (by decide) w331 hgb rfl d_Box_measureAlong_4 ?_
        refine hv_alen hE hI 3 hgc rfl (z := nI n) rfl d_Box_measureAlong_7 ?_
        refine lv_icmp_ge (tgt := 166) hx hb d_Box_measureAlong_8 (by decide) (fun c8 => ?_) (fun c8 => ?_)
        · skip
          exact absurd c8 (nI_ge (by omega) (by omega))
        · skip
          refine lv_aload_n hx hb d_Box_measureAlong_11 rfl (lv_at hl 0 rfl) ?_
          refine hv_get hE k_Box hI 2 (by decide) w333 hgb rfl d_Box_measureAlong_12 ?_
          refine lv_iload_n hx hb d_Box_measureAlong_15 rfl (lv_at hl 1 rfl) ?_
          refine lv_aload_n hx hb d_Box_measureAlong_16 rfl (lv_at hl 0 rfl) ?_
          refine hv_get hE k_Box hI 5 (by decide) w339 hgb rfl d_Box_measureAlong_17 ?_
          refine hv_iast hE hI 0 hgp rfl (pk_in i n (by omega) rfl (by omega)) d_Box_measureAlong_20 (fun H locs hI => ?_)
          rw [nI_cl (by omega)] at hI
          obtain ⟨g22, eg22⟩ : ∃ z : hv_M, z = hv_up g pa (.inl (cA 0, n, .inl (upd gp i w))) := ⟨_, rfl⟩
          have hI : hv_I D CL b0 g22 s.heap H locs := by rw [eg22]; exact hI
          have h23 : g22 bx = some (.inr (1, [.int bel, .ref ca, .ref pa, .int dp, .int al, .int w, .int h, .int d, .int ex, .int od, .int to, .int ov])) := by rw [eg22]; rw [hv_up_ne _ _ (hv_ne hgb hgp (by simp))]; exact hgb
          have h24 : g22 pa = some (.inl (cA 0, n, .inl (upd gp i w))) := by rw [eg22]; exact hv_up_self _ _ _
          have h25 : g22 ca = some (.inl (cA 3, n, .inr (.inr (.inr (.inr gc))))) := by rw [eg22]; rw [hv_up_ne _ _ (hv_ne hgc hgp (by simp))]; exact hgc
          have h26 : g22 q = some (.inr (3, [.int iw, .int a9, .int b9, .int c9, .int e9])) := by rw [eg22]; rw [hv_up_ne _ _ (hv_ne hgq hgp (by simp))]; exact hgq
          refine lv_aload_n hx hb d_Box_measureAlong_21 rfl (lv_at hl 0 rfl) ?_
          refine hv_get hE k_Box hI 1 (by decide) w331 h23 rfl d_Box_measureAlong_22 ?_
          refine lv_iload_n hx hb d_Box_measureAlong_25 rfl (lv_at hl 1 rfl) ?_
          refine hv_aald hE hI 3 h25 rfl (pk_in i n (by omega) rfl (by omega)) d_Box_measureAlong_26 ?_
          rw [nI_cl (by omega)]
          rw [hq1]
          refine W.eq (g2 := F0 m 27 ls [.ref q]) rfl ?_
          refine lv_astore (lv' := [(4, .ref q), (0, .ref bx), (1, .int (nI i))]) hx hb d_Box_measureAlong_27 hl (by decide) rfl (fun ls hl => ?_)
          refine lv_aload hx hb d_Box_measureAlong_29 (lv_at hl 0 rfl) ?_
          refine hv_instN hE hI hK h26 rfl (nm := "BoxPacker$Solid") (by decide) w321 d_Box_measureAlong_31 ?_
          refine lv_if_eq (tgt := 121) hx hb d_Box_measureAlong_34 (by decide) (fun c34 => ?_) (fun c34 => ?_)
          · skip
            refine lv_aload_n hx hb d_Box_measureAlong_121 rfl (lv_at hl 1 rfl) ?_
            refine hv_get hE k_Box hI 1 (by decide) w331 h23 rfl d_Box_measureAlong_122 ?_
            refine lv_iload_n hx hb d_Box_measureAlong_125 rfl (lv_at hl 2 rfl) ?_
            refine hv_aald hE hI 3 h25 rfl (pk_in i n (by omega) rfl (by omega)) d_Box_measureAlong_126 ?_
            rw [nI_cl (by omega)]
            rw [hq1]
            refine W.eq (g2 := F0 m 127 ls [.ref q]) rfl ?_
            refine lv_astore (lv' := [(4, .ref q), (0, .ref bx), (1, .int (nI i))]) hx hb d_Box_measureAlong_127 hl (by decide) rfl (fun ls hl => ?_)
            refine lv_aload hx hb d_Box_measureAlong_129 (lv_at hl 0 rfl) ?_
            refine hv_instS hE hI h26 rfl w413 d_Box_measureAlong_131 ?_
            refine lv_if_eq (tgt := 160) hx hb d_Box_measureAlong_134 (by decide) (fun c134 => ?_) (fun c134 => ?_)
            · skip
              exact absurd c134 (by decide)
            · skip
              refine lv_aload hx hb d_Box_measureAlong_137 (lv_at hl 0 rfl) ?_
              refine hv_castS hE hI h26 rfl w413 d_Box_measureAlong_139 ?_
              refine lv_astore_n (lv' := [(3, .ref q), (4, .ref q), (0, .ref bx), (1, .int (nI i))]) hx hb d_Box_measureAlong_142 rfl hl (by decide) rfl (fun ls hl => ?_)
              refine lv_aload_n hx hb d_Box_measureAlong_143 rfl (lv_at hl 2 rfl) ?_
              refine lv_aload_n hx hb d_Box_measureAlong_144 rfl (lv_at hl 2 rfl) ?_
              refine hv_get hE k_Box hI 5 (by decide) w339 h23 rfl d_Box_measureAlong_145 ?_
              refine lv_i2l (v := w.toInt64) hx hb d_Box_measureAlong_148 rfl ?_
              refine lv_aload_n hx hb d_Box_measureAlong_149 rfl (lv_at hl 0 rfl) ?_
              refine hv_getN hE k_Space hI 0 (by decide) w252 h26 rfl d_Box_measureAlong_150 ?_
              refine lv_i2l (v := iw.toInt64) hx hb d_Box_measureAlong_153 rfl ?_
              by_cases hz154 : sz (w.toInt64 + iw.toInt64) = true
              rotate_left
              · refine hv_SN (As := [.long w.toInt64, .long iw.toInt64]) (rest := [.ref bx]) hE hml hK hI (c_BP_sumX l hl0 b0 D cA g22 w.toInt64 iw.toInt64 hz154) cd_BP_sum w388 w389 rfl hl.1 (Nat.le_of_ble_eq_true rfl) d_Box_measureAlong_154 ⟨by decide, by decide⟩ ⟨by decide, by decide⟩ (fun v9 g9 H locs hp hI => hp.elim) (fun q9 E9 ce9 g9 H locs hp hI hce hcv hcl => ?_)
                obtain ⟨hE9, hg9, -⟩ := hp
                rw [hg9] at hI
                rw [hE9] at hcl
                exact hv_out hout hlocks hI hK hce hcv hcl (⟨rfl, by rw [← heq]; simp [alongF, hiv, jsum_f hz154], fun z z1 z2 => by rw [eg22, hv_up_ne _ _ z2]; exact hfo z z1 z2⟩) (by decide) (by decide)
              refine hv_SNp (As := [.long w.toInt64, .long iw.toInt64]) (rest := [.ref bx]) hE hml hK hI (c_BP_sumR l hl0 b0 D cA g22 w.toInt64 iw.toInt64 hz154) cd_BP_sum w388 w389 rfl rfl rfl hl.1 (Nat.le_of_ble_eq_true rfl) d_Box_measureAlong_154 ⟨by decide, by decide⟩ ⟨by decide, by decide⟩ (fun H locs hI => ?_)
              refine W.eq (g2 := F0 m 157 ls [.int ((w.toInt64 + iw.toInt64).toInt32), .ref bx]) rfl ?_
              refine hv_put hE k_Box hI 5 (by decide) w339 h23 rfl rfl rfl (Nat.le_of_ble_eq_true rfl) d_Box_measureAlong_157 (fun H locs hI => ?_)
              obtain ⟨g27, eg27⟩ : ∃ z : hv_M, z = hv_up g22 bx (.inr (1, [.int bel, .ref ca, .ref pa, .int dp, .int al, .int ((w.toInt64 + iw.toInt64).toInt32), .int h, .int d, .int ex, .int od, .int to, .int ov])) := ⟨_, rfl⟩
              have hI : hv_I D CL b0 g27 s.heap H locs := by rw [eg27]; exact hI
              have h28 : g27 bx = some (.inr (1, [.int bel, .ref ca, .ref pa, .int dp, .int al, .int ((w.toInt64 + iw.toInt64).toInt32), .int h, .int d, .int ex, .int od, .int to, .int ov])) := by rw [eg27]; exact hv_up_self _ _ _
              have h29 : g27 pa = some (.inl (cA 0, n, .inl (upd gp i w))) := by rw [eg27]; rw [hv_up_ne _ _ (hv_ne h24 h23 (by simp))]; exact h24
              have h30 : g27 ca = some (.inl (cA 3, n, .inr (.inr (.inr (.inr gc))))) := by rw [eg27]; rw [hv_up_ne _ _ (hv_ne h25 h23 (by simp))]; exact h25
              have h31 : g27 q = some (.inr (3, [.int iw, .int a9, .int b9, .int c9, .int e9])) := by rw [eg27]; rw [hv_up_ne _ _ (hv_ne h26 h23 (by simp))]; exact h26
              obtain ⟨v32, ev32⟩ : ∃ y : Int32, y = (nI i) + 1 := ⟨_, rfl⟩
              refine lv_iinc (v := v32) (lv' := [(1, .int v32), (3, .ref q), (4, .ref q), (0, .ref bx)]) hx hb d_Box_measureAlong_160 hl (k := 3) rfl (by rw [ev32]; rfl) (by decide) rfl (fun ls hl => ?_)
              refine lv_goto (tgt := 2) hx hb d_Box_measureAlong_163 (by decide) ?_
              exact ih (i + 1) ((w.toInt64 + iw.toInt64).toInt32) h d _ _ _ _ ls (by omega) h28 h29 (fun z z1 z2 => by rw [eg27, hv_up_ne _ _ z1, eg22, hv_up_ne _ _ z2]; exact hfo z z1 z2) (by rw [← heq]; simp [alongF, hiv, jsum_t hz154]) hI (by rw [← nI_1, ← ev32]; exact lv_sub hl [3, 0] rfl)
          · skip
            exact absurd rfl c34
  exact loop n 0 0 0 0 gp0 f _ _ ls (by omega) hbx hpa (fun z _ _ => rfl) rfl hI (lv_sub hl [1, 0] rfl)
end
section
/-! ===== measureBelow, gives, fillUp, findTotal, addShares: what they reckon ===== -/
def belowF (iv : Nat → It) : Nat → Nat → Int32 → Int32 → Int32 → (Nat → Int32) → Option (Int32 × Int32 × Int32 × (Nat → Int32))
  | 0, _, w, h, d, gp => some (w, h, d, gp)
  | k + 1, i, w, h, d, gp => match iv i with
    | .inl (_, iw, ih, id9, _, z) => (jsum h.toInt64 d.toInt64).bind fun h0 => (jsum h0.toInt64 (kn ih 0).toInt64).bind fun h1 => (jsum (kn iw 0).toInt64 z.toInt64).bind fun w1 =>
        belowF iv k (i + 1) (mx w w1) h1 (kn id9 0) (upd gp i h0)
    | .inr (iw, _, _, _, _) => (jsum h.toInt64 d.toInt64).bind fun h0 => (jsum h0.toInt64 iw.toInt64).bind fun h1 => belowF iv k (i + 1) w h1 0 (upd gp i h)
def belowE (gr : Int32) (x : Int32 × Int32 × Int32 × (Nat → Int32)) : Option (Int32 × Int32 × Int32 × (Nat → Int32)) :=
  if x.2.2.1 ≤ gr then some x else (jsum x.2.1.toInt64 (x.2.2.1.toInt64 - gr.toInt64)).bind fun h1 => some (x.1, h1, gr, x.2.2.2)
def gvO (s : Bool) (b z : Int32) : Int32 := if s = true then z else b
def gvA (s : Bool) (a d : Int32) : Int32 := if s = true then d else a
def givesF (s : Bool) (iv : Nat → It) : Nat → Nat → (Nat → Int32) → Option (Nat → Int32)
  | 0, _, gs => some gs
  | k + 1, i, gs => match iv i with
    | .inl _ => givesF s iv k (i + 1) gs
    | .inr (_, a, b, d, z) => (jsum (gs (gvO s b z).toNatClampNeg).toInt64 (gvA s a d).toInt64).bind fun v => givesF s iv k (i + 1) (upd gs (gvO s b z).toNatClampNeg v)
/-- the orders of all glue are 0 .. 3 -/
def ordsIn (n : Nat) (iv : Nat → It) : Prop := ∀ i, i < n → ∀ w a b d z, iv i = .inr (w, a, b, d, z) → vp_in b 4 ∧ vp_in z 4
theorem gvO_in {n : Nat} {iv : Nat → It} (h : ordsIn n iv) {i : Nat} (hi : i < n) {w a b d z : Int32} (e : iv i = .inr (w, a, b, d, z)) (s : Bool) : vp_in (gvO s b z) 4 := by
  obtain ⟨h1, h2⟩ := h i hi w a b d z e
  cases s
  · exact h1
  · exact h2
def fillF (bel : Bool) (how size w h : Int32) : Option (Int32 × Int32) :=
  (if how = 1 then jsum size.toInt64 (-(if bel = true then h else w)).toInt64 else if how = 2 then some size else some 0).bind fun ex =>
    (jsum (if bel = true then h else w).toInt64 ex.toInt64).bind fun ln => some (ex, ln)
def findF (gs : Nat → Int32) : Nat → Nat → Int32 → Int32 → Int32 × Int32
  | 0, _, o, t => (o, t)
  | k + 1, i, o, t => if gs i = 0 then findF gs k (i + 1) o t else findF gs k (i + 1) (nI i) (gs i)
def lab (x : Int64) : Int64 := if x < 0 then -x else x
def dtn (x : Int64) (d : Int32) : Int32 := (if x < 0 then -((2 * lab x + d.toInt64) / (2 * d.toInt64)) else (2 * lab x + d.toInt64) / (2 * d.toInt64)).toInt32
def shareF (s : Bool) (o t : Int32) (gv : Int64) (iv : Nat → It) : Nat → Nat → Int64 → (Nat → Int32) → (Nat → Int32)
  | 0, _, _, gp => gp
  | k + 1, i, bf, gp => shareF s o t gv iv k (i + 1) (match iv i with
      | .inl _ => bf
      | .inr (_, a, b, d, z) => if gvO s b z = o then bf + (gvA s a d).toInt64 else bf) (upd gp i (gp i + dtn (bf * gv) t))
def ab (x : Int32) : Int32 := if 0 ≤ x then x else 0 - x
def brat (m a : Int32) : Int32 := if m ≤ 7230584 then 297 * m / a else if a < 1663497 then m else m / (a / 297)
def badF (ex od to ov : Int32) : Int32 :=
  if 0 < ov then 1000000 else if ex = 0 ∨ 0 < od then 0 else if to = 0 then 10000 else if brat (ab ex) to ≤ 1290 then (brat (ab ex) to * brat (ab ex) to * brat (ab ex) to + 131072) / 262144 else 10000
def addS (ex od to ov : Int32) (iv : Nat → It) (n : Nat) (gp : Nat → Int32) : Nat → Int32 :=
  if to = 0 then gp else shareF (decide (ex < 0)) od to (if 0 < ov then (-to).toInt64 else ex.toInt64) iv n 0 0 gp
theorem two_ne {x : Int32} (h : ¬ x = 0) : ¬ (2 : Int64) * x.toInt64 = 0 := by
  intro q
  have h1 := congrArg Int64.toInt q
  have b1 := Int32.le_toInt x
  have b2 := Int32.toInt_lt x
  rw [Int64.toInt_mul, Int32.toInt_toInt64, show (2 : Int64).toInt = 2 by decide, show (0 : Int64).toInt = 0 by decide, Int.bmod_eq_of_le (by omega) (by omega)] at h1
  exact h (Int32.toInt_inj.mp (by rw [show (0 : Int32).toInt = 0 by decide]; omega))
theorem div297 {a : Int32} (h : ¬ a < 1663497) : ¬ a / 297 = 0 := by
  intro q
  have h1 := congrArg Int32.toInt q
  have b1 : (1663497 : Int) ≤ a.toInt := by
    have := Int32.le_iff_toInt_le.mp (Int32.not_lt.mp h)
    rw [show (1663497 : Int32).toInt = 1663497 by decide] at this
    exact this
  have b2 := Int32.toInt_lt a
  rw [Int32.toInt_div, show (297 : Int32).toInt = 297 by decide, show (0 : Int32).toInt = 0 by decide, Int.tdiv_eq_ediv_of_nonneg (by omega), Int.bmod_eq_of_le (by omega) (by omega)] at h1
  omega
end
section
set_option maxHeartbeats 4000000 in
set_option maxRecDepth 100000 in
theorem c_Box_measureBelow (l : Launch) (hl0 : l.stackTraces = false) (b0 : Nat) (D : va_G) (cA : Nat → ClassId) (f : hv_M) (bx ca pa n : Nat) (bel dp al ex od to ov gr : Int32) (gc : Nat → Option Nat) (gp0 : Nat → Int32) (iv : Nat → It) (hbx : f bx = some (.inr (1, [.int bel, .ref ca, .ref pa, .int dp, .int al, .int 0, .int 0, .int 0, .int ex, .int od, .int to, .int ov]))) (hca : f ca = some (.inl (cA 3, n, .inr (.inr (.inr (.inr gc)))))) (hpa : f pa = some (.inl (cA 0, n, .inl gp0))) (hit : itsAt f n gc iv) (hn : n ≤ 100) : hv_Met l y_Box_measureBelow [Cond.code y_Box_measureBelow b_Box_measureBelow 6 none] (RM 3 1 6) b0 (Fa D cA) D CL [.ref bx, .int gr] f (fun v g => v = none ∧ ∃ (w h d : Int32) (gp : Nat → Int32), (belowF iv n 0 0 0 0 gp0).bind (belowE gr) = some (w, h, d, gp) ∧ g bx = some (.inr (1, [.int bel, .ref ca, .ref pa, .int dp, .int al, .int w, .int h, .int d, .int ex, .int od, .int to, .int ov])) ∧ g pa = some (.inl (cA 0, n, .inl gp)) ∧ ∀ z, z ≠ bx → z ≠ pa → g z = f z) (fun E g => E = "java/lang/IllegalStateException" ∧ (belowF iv n 0 0 0 0 gp0).bind (belowE gr) = none ∧ ∀ z, z ≠ bx → z ≠ pa → g z = f z) := by
  refine hv_Met.of (own := "BoxPacker$Box") (by decide) rfl (Nat.le_of_ble_eq_true rfl) ?_
  intro p e s m below meth c hE hml hout hr hlocks hname hK hI ls hl
  have hl : lv_has ls 6 [(0, .ref bx), (1, .int gr)] := hl
  obtain ⟨hx, hb, hown, hts, hVK⟩ := id hE
  refine lv_iconst (v := 0) hx hb d_Box_measureBelow_0 (by decide) ?_
  refine lv_istore_n (lv' := [(2, .int 0), (0, .ref bx), (1, .int gr)]) hx hb d_Box_measureBelow_1 rfl hl (by decide) rfl (fun ls hl => ?_)
  have loop : ∀ (k i : Nat) (w h d : Int32) (gp : Nat → Int32) (g : hv_M) (H : Heap) (locs : List Loc) (ls : Array Slot), i + k = n → g bx = some (.inr (1, [.int bel, .ref ca, .ref pa, .int dp, .int al, .int w, .int h, .int d, .int ex, .int od, .int to, .int ov])) → g pa = some (.inl (cA 0, n, .inl gp)) → (∀ z, z ≠ bx → z ≠ pa → g z = f z) → belowF iv k i w h d gp = belowF iv n 0 0 0 0 gp0 → hv_I D CL b0 g s.heap H locs → lv_has ls 6 [(0, .ref bx), (1, .int gr), (2, .int (nI i))] → W p l e (RM 3 1 6) s m ([.ref bx, .int gr] : List Value).toArray below meth c H locs (0) (0) (xh_MQ below (hv_Q b0 (Fa D cA) D CL (fun v g => v = none ∧ ∃ (w h d : Int32) (gp : Nat → Int32), (belowF iv n 0 0 0 0 gp0).bind (belowE gr) = some (w, h, d, gp) ∧ g bx = some (.inr (1, [.int bel, .ref ca, .ref pa, .int dp, .int al, .int w, .int h, .int d, .int ex, .int od, .int to, .int ov])) ∧ g pa = some (.inl (cA 0, n, .inl gp)) ∧ ∀ z, z ≠ bx → z ≠ pa → g z = f z) (fun E g => E = "java/lang/IllegalStateException" ∧ (belowF iv n 0 0 0 0 gp0).bind (belowE gr) = none ∧ ∀ z, z ≠ bx → z ≠ pa → g z = f z)) s 1 6 (fun q => b0 ≤ q)) (F0 m 2 ls []) := by
    intro k
    induction k with
    | zero =>
      intro i w h d gp g H locs ls hik hgb hgp hfo heq hI hl
      have hgc : g ca = some (.inl (cA 3, n, .inr (.inr (.inr (.inr gc))))) := by rw [hfo ca (hv_ne hca hbx (by simp)) (hv_ne hca hpa (by simp))]; exact hca
      refine lv_iload_n hx hb d_Box_measureBelow_2 rfl (lv_at hl 2 rfl) ?_
      refine lv_aload_n hx hb d_Box_measureBelow_3 rfl (lv_at hl 0 rfl) ?_
      refine hv_get hE k_Box hI 1 (by decide) w331 hgb rfl d_Box_measureBelow_4 ?_
      refine hv_alen hE hI 3 hgc rfl (z := nI n) rfl d_Box_measureBelow_7 ?_
      refine lv_icmp_ge (tgt := 192) hx hb d_Box_measureBelow_8 (by decide) (fun c8 => ?_) (fun c8 => ?_)
      · skip
        refine lv_aload_n hx hb d_Box_measureBelow_192 rfl (lv_at hl 0 rfl) ?_
        refine hv_get hE k_Box hI 7 (by decide) w343 hgb rfl d_Box_measureBelow_193 ?_
        refine lv_iload_n hx hb d_Box_measureBelow_196 rfl (lv_at hl 1 rfl) ?_
        refine lv_icmp_le (tgt := 225) hx hb d_Box_measureBelow_197 (by decide) (fun c197 => ?_) (fun c197 => ?_)
        · skip
          exact hv_vret hE hr hlocks hI hK (⟨rfl, w, h, d, gp, by rw [← heq]; simp only [belowF, belowE, if_pos c197, Option.bind_some, Option.bind_none], hgb, hgp, fun z z1 z2 => by exact hfo z z1 z2⟩) (by decide) (by decide) d_Box_measureBelow_225
        · skip
          refine lv_aload_n hx hb d_Box_measureBelow_200 rfl (lv_at hl 0 rfl) ?_
          refine lv_aload_n hx hb d_Box_measureBelow_201 rfl (lv_at hl 0 rfl) ?_
          refine hv_get hE k_Box hI 6 (by decide) w341 hgb rfl d_Box_measureBelow_202 ?_
          refine lv_i2l (v := h.toInt64) hx hb d_Box_measureBelow_205 rfl ?_
          refine lv_aload_n hx hb d_Box_measureBelow_206 rfl (lv_at hl 0 rfl) ?_
          refine hv_get hE k_Box hI 7 (by decide) w343 hgb rfl d_Box_measureBelow_207 ?_
          refine lv_i2l (v := d.toInt64) hx hb d_Box_measureBelow_210 rfl ?_
          refine lv_iload_n hx hb d_Box_measureBelow_211 rfl (lv_at hl 1 rfl) ?_
          refine lv_i2l (v := gr.toInt64) hx hb d_Box_measureBelow_212 rfl ?_
          refine lv_lsub hx hb d_Box_measureBelow_213 ?_
          by_cases hz214 : sz (h.toInt64 + (d.toInt64 - gr.toInt64)) = true
          rotate_left
          · refine hv_SN (As := [.long h.toInt64, .long (d.toInt64 - gr.toInt64)]) (rest := [.ref bx]) hE hml hK hI (c_BP_sumX l hl0 b0 D cA g h.toInt64 (d.toInt64 - gr.toInt64) hz214) cd_BP_sum w388 w389 rfl hl.1 (Nat.le_of_ble_eq_true rfl) d_Box_measureBelow_214 ⟨by decide, by decide⟩ ⟨by decide, by decide⟩ (fun v9 g9 H locs hp hI => hp.elim) (fun q9 E9 ce9 g9 H locs hp hI hce hcv hcl => ?_)
            obtain ⟨hE9, hg9, -⟩ := hp
            rw [hg9] at hI
            rw [hE9] at hcl
            exact hv_out hout hlocks hI hK hce hcv hcl (⟨rfl, by rw [← heq]; simp only [belowF, belowE, if_neg c197, Option.bind_some, Option.bind_none, jsum_f hz214], fun z z1 z2 => by exact hfo z z1 z2⟩) (by decide) (by decide)
          refine hv_SNp (As := [.long h.toInt64, .long (d.toInt64 - gr.toInt64)]) (rest := [.ref bx]) hE hml hK hI (c_BP_sumR l hl0 b0 D cA g h.toInt64 (d.toInt64 - gr.toInt64) hz214) cd_BP_sum w388 w389 rfl rfl rfl hl.1 (Nat.le_of_ble_eq_true rfl) d_Box_measureBelow_214 ⟨by decide, by decide⟩ ⟨by decide, by decide⟩ (fun H locs hI => ?_)
          refine W.eq (g2 := F0 m 217 ls [.int ((h.toInt64 + (d.toInt64 - gr.toInt64)).toInt32), .ref bx]) rfl ?_
          refine hv_put hE k_Box hI 6 (by decide) w341 hgb rfl rfl rfl (Nat.le_of_ble_eq_true rfl) d_Box_measureBelow_217 (fun H locs hI => ?_)
          obtain ⟨g1, eg1⟩ : ∃ z : hv_M, z = hv_up g bx (.inr (1, [.int bel, .ref ca, .ref pa, .int dp, .int al, .int w, .int ((h.toInt64 + (d.toInt64 - gr.toInt64)).toInt32), .int d, .int ex, .int od, .int to, .int ov])) := ⟨_, rfl⟩
          have hI : hv_I D CL b0 g1 s.heap H locs := by rw [eg1]; exact hI
          have h2 : g1 bx = some (.inr (1, [.int bel, .ref ca, .ref pa, .int dp, .int al, .int w, .int ((h.toInt64 + (d.toInt64 - gr.toInt64)).toInt32), .int d, .int ex, .int od, .int to, .int ov])) := by rw [eg1]; exact hv_up_self _ _ _
          have h3 : g1 pa = some (.inl (cA 0, n, .inl gp)) := by rw [eg1]; rw [hv_up_ne _ _ (hv_ne hgp hgb (by simp))]; exact hgp
          have h4 : g1 ca = some (.inl (cA 3, n, .inr (.inr (.inr (.inr gc))))) := by rw [eg1]; rw [hv_up_ne _ _ (hv_ne hgc hgb (by simp))]; exact hgc
          refine lv_aload_n hx hb d_Box_measureBelow_220 rfl (lv_at hl 0 rfl) ?_
          refine lv_iload_n hx hb d_Box_measureBelow_221 rfl (lv_at hl 1 rfl) ?_
          refine hv_put hE k_Box hI 7 (by decide) w343 h2 rfl rfl rfl (Nat.le_of_ble_eq_true rfl) d_Box_measureBelow_222 (fun H locs hI => ?_)
          obtain ⟨g5, eg5⟩ : ∃ z : hv_M, z = hv_up g1 bx (.inr (1, [.int bel, .ref ca, .ref pa, .int dp, .int al, .int w, .int ((h.toInt64 + (d.toInt64 - gr.toInt64)).toInt32), .int gr, .int ex, .int od, .int to, .int ov])) := ⟨_, rfl⟩
          have hI : hv_I D CL b0 g5 s.heap H locs := by rw [eg5]; exact hI
          have h6 : g5 bx = some (.inr (1, [.int bel, .ref ca, .ref pa, .int dp, .int al, .int w, .int ((h.toInt64 + (d.toInt64 - gr.toInt64)).toInt32), .int gr, .int ex, .int od, .int to, .int ov])) := by rw [eg5]; exact hv_up_self _ _ _
          have h7 : g5 pa = some (.inl (cA 0, n, .inl gp)) := by rw [eg5]; rw [hv_up_ne _ _ (hv_ne h3 h2 (by simp))]; exact h3
          have h8 : g5 ca = some (.inl (cA 3, n, .inr (.inr (.inr (.inr gc))))) := by rw [eg5]; rw [hv_up_ne _ _ (hv_ne h4 h2 (by simp))]; exact h4
          exact hv_vret hE hr hlocks hI hK (⟨rfl, w, (h.toInt64 + (d.toInt64 - gr.toInt64)).toInt32, gr, gp, by rw [← heq]; simp only [belowF, belowE, if_neg c197, Option.bind_some, Option.bind_none, jsum_t hz214], h6, h7, fun z z1 z2 => by rw [eg5, hv_up_ne _ _ z1, eg1, hv_up_ne _ _ z1]; exact hfo z z1 z2⟩) (by decide) (by decide) d_Box_measureBelow_225
      · skip
        exact absurd (nI_le (by omega) (by omega)) c8
    | succ k ih =>
      intro i w h d gp g H locs ls hik hgb hgp hfo heq hI hl
      have hgc : g ca = some (.inl (cA 3, n, .inr (.inr (.inr (.inr gc))))) := by rw [hfo ca (hv_ne hca hbx (by simp)) (hv_ne hca hpa (by simp))]; exact hca
      obtain ⟨q, hq1, hq2⟩ := hit i (by omega)
      rcases hiv : iv i with ⟨t, iw, ih9, id9, inn, z9⟩ | ⟨iw, a9, b9, c9, e9⟩
      · rw [hiv] at hq2
        have hgq : g q = some (.inr (2, [.int t, .int iw, .int ih9, .int id9, va_rf inn, .int z9])) := by rw [hfo q (hv_ne hq2 hbx (by simp [itE])) (hv_ne hq2 hpa (by simp [itE]))]; exact hq2
        refine lv_iload_n hx hb d_Box_measureBelow_2 rfl (lv_at hl 2 rfl) ?_
        refine lv_aload_n hx hb d_Box_measureBelow_3 rfl (lv_at hl 0 rfl) ?_
        refine hv_get hE k_Box hI 1 (by decide) w331 hgb rfl d_Box_measureBelow_4 ?_
        refine hv_alen hE hI 3 hgc rfl (z := nI n) rfl d_Box_measureBelow_7 ?_
        refine lv_icmp_ge (tgt := 192) hx hb d_Box_measureBelow_8 (by decide) (fun c8 => ?_) (fun c8 => ?_)
        · skip
          exact absurd c8 (nI_ge (by omega) (by omega))
        · skip
          refine lv_aload_n hx hb d_Box_measureBelow_11 rfl (lv_at hl 0 rfl) ?_
          refine hv_get hE k_Box hI 1 (by decide) w331 hgb rfl d_Box_measureBelow_12 ?_
          refine lv_iload_n hx hb d_Box_measureBelow_15 rfl (lv_at hl 2 rfl) ?_
          refine hv_aald hE hI 3 hgc rfl (pk_in i n (by omega) rfl (by omega)) d_Box_measureBelow_16 ?_
          rw [nI_cl (by omega)]
          rw [hq1]
          refine W.eq (g2 := F0 m 17 ls [.ref q]) rfl ?_
          refine lv_astore (lv' := [(5, .ref q), (0, .ref bx), (1, .int gr), (2, .int (nI i))]) hx hb d_Box_measureBelow_17 hl (by decide) rfl (fun ls hl => ?_)
          refine lv_aload hx hb d_Box_measureBelow_19 (lv_at hl 0 rfl) ?_
          refine hv_instS hE hI hgq rfl w321 d_Box_measureBelow_21 ?_
          refine lv_if_eq (tgt := 121) hx hb d_Box_measureBelow_24 (by decide) (fun c24 => ?_) (fun c24 => ?_)
          · skip
            exact absurd c24 (by decide)
          · skip
            refine lv_aload hx hb d_Box_measureBelow_27 (lv_at hl 0 rfl) ?_
            refine hv_castS hE hI hgq rfl w321 d_Box_measureBelow_29 ?_
            refine lv_astore_n (lv' := [(3, .ref q), (5, .ref q), (0, .ref bx), (1, .int gr), (2, .int (nI i))]) hx hb d_Box_measureBelow_32 rfl hl (by decide) rfl (fun ls hl => ?_)
            refine lv_aload_n hx hb d_Box_measureBelow_33 rfl (lv_at hl 2 rfl) ?_
            refine lv_aload_n hx hb d_Box_measureBelow_34 rfl (lv_at hl 2 rfl) ?_
            refine hv_get hE k_Box hI 6 (by decide) w341 hgb rfl d_Box_measureBelow_35 ?_
            refine lv_i2l (v := h.toInt64) hx hb d_Box_measureBelow_38 rfl ?_
            refine lv_aload_n hx hb d_Box_measureBelow_39 rfl (lv_at hl 2 rfl) ?_
            refine hv_get hE k_Box hI 7 (by decide) w343 hgb rfl d_Box_measureBelow_40 ?_
            refine lv_i2l (v := d.toInt64) hx hb d_Box_measureBelow_43 rfl ?_
            by_cases hz44 : sz (h.toInt64 + d.toInt64) = true
            rotate_left
            · refine hv_SN (As := [.long h.toInt64, .long d.toInt64]) (rest := [.ref bx]) hE hml hK hI (c_BP_sumX l hl0 b0 D cA g h.toInt64 d.toInt64 hz44) cd_BP_sum w388 w389 rfl hl.1 (Nat.le_of_ble_eq_true rfl) d_Box_measureBelow_44 ⟨by decide, by decide⟩ ⟨by decide, by decide⟩ (fun v9 g9 H locs hp hI => hp.elim) (fun q9 E9 ce9 g9 H locs hp hI hce hcv hcl => ?_)
              obtain ⟨hE9, hg9, -⟩ := hp
              rw [hg9] at hI
              rw [hE9] at hcl
              exact hv_out hout hlocks hI hK hce hcv hcl (⟨rfl, by rw [← heq]; simp only [belowF, hiv, Option.bind_some, Option.bind_none, jsum_f hz44], fun z z1 z2 => by exact hfo z z1 z2⟩) (by decide) (by decide)
            refine hv_SNp (As := [.long h.toInt64, .long d.toInt64]) (rest := [.ref bx]) hE hml hK hI (c_BP_sumR l hl0 b0 D cA g h.toInt64 d.toInt64 hz44) cd_BP_sum w388 w389 rfl rfl rfl hl.1 (Nat.le_of_ble_eq_true rfl) d_Box_measureBelow_44 ⟨by decide, by decide⟩ ⟨by decide, by decide⟩ (fun H locs hI => ?_)
            refine W.eq (g2 := F0 m 47 ls [.int ((h.toInt64 + d.toInt64).toInt32), .ref bx]) rfl ?_
            refine hv_put hE k_Box hI 6 (by decide) w341 hgb rfl rfl rfl (Nat.le_of_ble_eq_true rfl) d_Box_measureBelow_47 (fun H locs hI => ?_)
            obtain ⟨g9, eg9⟩ : ∃ z : hv_M, z = hv_up g bx (.inr (1, [.int bel, .ref ca, .ref pa, .int dp, .int al, .int w, .int ((h.toInt64 + d.toInt64).toInt32), .int d, .int ex, .int od, .int to, .int ov])) := ⟨_, rfl⟩
            have hI : hv_I D CL b0 g9 s.heap H locs := by rw [eg9]; exact hI
            have h10 : g9 bx = some (.inr (1, [.int bel, .ref ca, .ref pa, .int dp, .int al, .int w, .int ((h.toInt64 + d.toInt64).toInt32), .int d, .int ex, .int od, .int to, .int ov])) := by rw [eg9]; exact hv_up_self _ _ _
            have h11 : g9 pa = some (.inl (cA 0, n, .inl gp)) := by rw [eg9]; rw [hv_up_ne _ _ (hv_ne hgp hgb (by simp))]; exact hgp
            have h12 : g9 ca = some (.inl (cA 3, n, .inr (.inr (.inr (.inr gc))))) := by rw [eg9]; rw [hv_up_ne _ _ (hv_ne hgc hgb (by simp))]; exact hgc
            have h13 : g9 q = some (.inr (2, [.int t, .int iw, .int ih9, .int id9, va_rf inn, .int z9])) := by rw [eg9]; rw [hv_up_ne _ _ (hv_ne hgq hgb (by simp))]; exact hgq
            refine lv_aload_n hx hb d_Box_measureBelow_50 rfl (lv_at hl 2 rfl) ?_
            refine hv_get hE k_Box hI 2 (by decide) w333 h10 rfl d_Box_measureBelow_51 ?_
            refine lv_iload_n hx hb d_Box_measureBelow_54 rfl (lv_at hl 4 rfl) ?_
            refine lv_aload_n hx hb d_Box_measureBelow_55 rfl (lv_at hl 2 rfl) ?_
            refine hv_get hE k_Box hI 6 (by decide) w341 h10 rfl d_Box_measureBelow_56 ?_
            refine hv_iast hE hI 0 h11 rfl (pk_in i n (by omega) rfl (by omega)) d_Box_measureBelow_59 (fun H locs hI => ?_)
            rw [nI_cl (by omega)] at hI
            obtain ⟨g14, eg14⟩ : ∃ z : hv_M, z = hv_up g9 pa (.inl (cA 0, n, .inl (upd gp i ((h.toInt64 + d.toInt64).toInt32)))) := ⟨_, rfl⟩
            have hI : hv_I D CL b0 g14 s.heap H locs := by rw [eg14]; exact hI
            have h15 : g14 bx = some (.inr (1, [.int bel, .ref ca, .ref pa, .int dp, .int al, .int w, .int ((h.toInt64 + d.toInt64).toInt32), .int d, .int ex, .int od, .int to, .int ov])) := by rw [eg14]; rw [hv_up_ne _ _ (hv_ne h10 h11 (by simp))]; exact h10
            have h16 : g14 pa = some (.inl (cA 0, n, .inl (upd gp i ((h.toInt64 + d.toInt64).toInt32)))) := by rw [eg14]; exact hv_up_self _ _ _
            have h17 : g14 ca = some (.inl (cA 3, n, .inr (.inr (.inr (.inr gc))))) := by rw [eg14]; rw [hv_up_ne _ _ (hv_ne h12 h11 (by simp))]; exact h12
            have h18 : g14 q = some (.inr (2, [.int t, .int iw, .int ih9, .int id9, va_rf inn, .int z9])) := by rw [eg14]; rw [hv_up_ne _ _ (hv_ne h13 h11 (by simp))]; exact h13
            refine lv_aload_n hx hb d_Box_measureBelow_60 rfl (lv_at hl 2 rfl) ?_
            refine lv_aload_n hx hb d_Box_measureBelow_61 rfl (lv_at hl 2 rfl) ?_
            refine hv_get hE k_Box hI 6 (by decide) w341 h15 rfl d_Box_measureBelow_62 ?_
            refine lv_i2l (v := ((h.toInt64 + d.toInt64).toInt32).toInt64) hx hb d_Box_measureBelow_65 rfl ?_
            refine lv_aload_n hx hb d_Box_measureBelow_66 rfl (lv_at hl 0 rfl) ?_
            refine hv_getN hE k_Solid hI 2 (by decide) w192 h18 rfl d_Box_measureBelow_67 ?_
            refine hv_SNp (As := [.int ih9]) (rest := [.long (((h.toInt64 + d.toInt64).toInt32).toInt64), .ref bx]) hE hml hK hI (c_BP_known1 l hl0 b0 D cA g14 ih9) cd_BP_known1 w407 w408 rfl rfl rfl hl.1 (Nat.le_of_ble_eq_true rfl) d_Box_measureBelow_70 ⟨by decide, by decide⟩ ⟨by decide, by decide⟩ (fun H locs hI => ?_)
            refine W.eq (g2 := F0 m 73 ls [.int (kn ih9 0), .long (((h.toInt64 + d.toInt64).toInt32).toInt64), .ref bx]) rfl ?_
            refine lv_i2l (v := (kn ih9 0).toInt64) hx hb d_Box_measureBelow_73 rfl ?_
            by_cases hz74 : sz ((((h.toInt64 + d.toInt64).toInt32).toInt64) + ((kn ih9 0).toInt64)) = true
            rotate_left
            · refine hv_SN (As := [.long (((h.toInt64 + d.toInt64).toInt32).toInt64), .long ((kn ih9 0).toInt64)]) (rest := [.ref bx]) hE hml hK hI (c_BP_sumX l hl0 b0 D cA g14 (((h.toInt64 + d.toInt64).toInt32).toInt64) ((kn ih9 0).toInt64) hz74) cd_BP_sum w388 w389 rfl hl.1 (Nat.le_of_ble_eq_true rfl) d_Box_measureBelow_74 ⟨by decide, by decide⟩ ⟨by decide, by decide⟩ (fun v9 g9 H locs hp hI => hp.elim) (fun q9 E9 ce9 g9 H locs hp hI hce hcv hcl => ?_)
              obtain ⟨hE9, hg9, -⟩ := hp
              rw [hg9] at hI
              rw [hE9] at hcl
              exact hv_out hout hlocks hI hK hce hcv hcl (⟨rfl, by rw [← heq]; simp only [belowF, hiv, Option.bind_some, Option.bind_none, jsum_t hz44, jsum_f hz74], fun z z1 z2 => by rw [eg14, hv_up_ne _ _ z2, eg9, hv_up_ne _ _ z1]; exact hfo z z1 z2⟩) (by decide) (by decide)
            refine hv_SNp (As := [.long (((h.toInt64 + d.toInt64).toInt32).toInt64), .long ((kn ih9 0).toInt64)]) (rest := [.ref bx]) hE hml hK hI (c_BP_sumR l hl0 b0 D cA g14 (((h.toInt64 + d.toInt64).toInt32).toInt64) ((kn ih9 0).toInt64) hz74) cd_BP_sum w388 w389 rfl rfl rfl hl.1 (Nat.le_of_ble_eq_true rfl) d_Box_measureBelow_74 ⟨by decide, by decide⟩ ⟨by decide, by decide⟩ (fun H locs hI => ?_)
            refine W.eq (g2 := F0 m 77 ls [.int (((((h.toInt64 + d.toInt64).toInt32).toInt64) + ((kn ih9 0).toInt64)).toInt32), .ref bx]) rfl ?_
            refine hv_put hE k_Box hI 6 (by decide) w341 h15 rfl rfl rfl (Nat.le_of_ble_eq_true rfl) d_Box_measureBelow_77 (fun H locs hI => ?_)
            obtain ⟨g19, eg19⟩ : ∃ z : hv_M, z = hv_up g14 bx (.inr (1, [.int bel, .ref ca, .ref pa, .int dp, .int al, .int w, .int (((((h.toInt64 + d.toInt64).toInt32).toInt64) + ((kn ih9 0).toInt64)).toInt32), .int d, .int ex, .int od, .int to, .int ov])) := ⟨_, rfl⟩
            have hI : hv_I D CL b0 g19 s.heap H locs := by rw [eg19]; exact hI
            have h20 : g19 bx = some (.inr (1, [.int bel, .ref ca, .ref pa, .int dp, .int al, .int w, .int (((((h.toInt64 + d.toInt64).toInt32).toInt64) + ((kn ih9 0).toInt64)).toInt32), .int d, .int ex, .int od, .int to, .int ov])) := by rw [eg19]; exact hv_up_self _ _ _
            have h21 : g19 pa = some (.inl (cA 0, n, .inl (upd gp i ((h.toInt64 + d.toInt64).toInt32)))) := by rw [eg19]; rw [hv_up_ne _ _ (hv_ne h16 h15 (by simp))]; exact h16
            have h22 : g19 ca = some (.inl (cA 3, n, .inr (.inr (.inr (.inr gc))))) := by rw [eg19]; rw [hv_up_ne _ _ (hv_ne h17 h15 (by simp))]; exact h17
            have h23 : g19 q = some (.inr (2, [.int t, .int iw, .int ih9, .int id9, va_rf inn, .int z9])) := by rw [eg19]; rw [hv_up_ne _ _ (hv_ne h18 h15 (by simp))]; exact h18
            refine lv_aload_n hx hb d_Box_measureBelow_80 rfl (lv_at hl 2 rfl) ?_
            refine lv_aload_n hx hb d_Box_measureBelow_81 rfl (lv_at hl 0 rfl) ?_
            refine hv_getN hE k_Solid hI 3 (by decide) w195 h23 rfl d_Box_measureBelow_82 ?_
            refine hv_SNp (As := [.int id9]) (rest := [.ref bx]) hE hml hK hI (c_BP_known1 l hl0 b0 D cA g19 id9) cd_BP_known1 w407 w408 rfl rfl rfl hl.1 (Nat.le_of_ble_eq_true rfl) d_Box_measureBelow_85 ⟨by decide, by decide⟩ ⟨by decide, by decide⟩ (fun H locs hI => ?_)
            refine W.eq (g2 := F0 m 88 ls [.int (kn id9 0), .ref bx]) rfl ?_
            refine hv_put hE k_Box hI 7 (by decide) w343 h20 rfl rfl rfl (Nat.le_of_ble_eq_true rfl) d_Box_measureBelow_88 (fun H locs hI => ?_)
            obtain ⟨g24, eg24⟩ : ∃ z : hv_M, z = hv_up g19 bx (.inr (1, [.int bel, .ref ca, .ref pa, .int dp, .int al, .int w, .int (((((h.toInt64 + d.toInt64).toInt32).toInt64) + ((kn ih9 0).toInt64)).toInt32), .int (kn id9 0), .int ex, .int od, .int to, .int ov])) := ⟨_, rfl⟩
            have hI : hv_I D CL b0 g24 s.heap H locs := by rw [eg24]; exact hI
            have h25 : g24 bx = some (.inr (1, [.int bel, .ref ca, .ref pa, .int dp, .int al, .int w, .int (((((h.toInt64 + d.toInt64).toInt32).toInt64) + ((kn ih9 0).toInt64)).toInt32), .int (kn id9 0), .int ex, .int od, .int to, .int ov])) := by rw [eg24]; exact hv_up_self _ _ _
            have h26 : g24 pa = some (.inl (cA 0, n, .inl (upd gp i ((h.toInt64 + d.toInt64).toInt32)))) := by rw [eg24]; rw [hv_up_ne _ _ (hv_ne h21 h20 (by simp))]; exact h21
            have h27 : g24 ca = some (.inl (cA 3, n, .inr (.inr (.inr (.inr gc))))) := by rw [eg24]; rw [hv_up_ne _ _ (hv_ne h22 h20 (by simp))]; exact h22
            have h28 : g24 q = some (.inr (2, [.int t, .int iw, .int ih9, .int id9, va_rf inn, .int z9])) := by rw [eg24]; rw [hv_up_ne _ _ (hv_ne h23 h20 (by simp))]; exact h23
            refine lv_aload_n hx hb d_Box_measureBelow_91 rfl (lv_at hl 2 rfl) ?_
            refine lv_aload_n hx hb d_Box_measureBelow_92 rfl (lv_at hl 2 rfl) ?_
            refine hv_get hE k_Box hI 5 (by decide) w339 h25 rfl d_Box_measureBelow_93 ?_
            refine lv_aload_n hx hb d_Box_measureBelow_96 rfl (lv_at hl 0 rfl) ?_
            refine hv_getN hE k_Solid hI 1 (by decide) w189 h28 rfl d_Box_measureBelow_97 ?_
            refine hv_SNp (As := [.int iw]) (rest := [.int w, .ref bx]) hE hml hK hI (c_BP_known1 l hl0 b0 D cA g24 iw) cd_BP_known1 w407 w408 rfl rfl rfl hl.1 (Nat.le_of_ble_eq_true rfl) d_Box_measureBelow_100 ⟨by decide, by decide⟩ ⟨by decide, by decide⟩ (fun H locs hI => ?_)
            refine W.eq (g2 := F0 m 103 ls [.int (kn iw 0), .int w, .ref bx]) rfl ?_
            refine lv_i2l (v := (kn iw 0).toInt64) hx hb d_Box_measureBelow_103 rfl ?_
            refine lv_aload_n hx hb d_Box_measureBelow_104 rfl (lv_at hl 0 rfl) ?_
            refine hv_getN hE k_Solid hI 5 (by decide) w201 h28 rfl d_Box_measureBelow_105 ?_
            refine lv_i2l (v := z9.toInt64) hx hb d_Box_measureBelow_108 rfl ?_
            by_cases hz109 : sz (((kn iw 0).toInt64) + z9.toInt64) = true
            rotate_left
            · refine hv_SN (As := [.long ((kn iw 0).toInt64), .long z9.toInt64]) (rest := [.int w, .ref bx]) hE hml hK hI (c_BP_sumX l hl0 b0 D cA g24 ((kn iw 0).toInt64) z9.toInt64 hz109) cd_BP_sum w388 w389 rfl hl.1 (Nat.le_of_ble_eq_true rfl) d_Box_measureBelow_109 ⟨by decide, by decide⟩ ⟨by decide, by decide⟩ (fun v9 g9 H locs hp hI => hp.elim) (fun q9 E9 ce9 g9 H locs hp hI hce hcv hcl => ?_)
              obtain ⟨hE9, hg9, -⟩ := hp
              rw [hg9] at hI
              rw [hE9] at hcl
              exact hv_out hout hlocks hI hK hce hcv hcl (⟨rfl, by rw [← heq]; simp only [belowF, hiv, Option.bind_some, Option.bind_none, jsum_t hz44, jsum_t hz74, jsum_f hz109], fun z z1 z2 => by rw [eg24, hv_up_ne _ _ z1, eg19, hv_up_ne _ _ z1, eg14, hv_up_ne _ _ z2, eg9, hv_up_ne _ _ z1]; exact hfo z z1 z2⟩) (by decide) (by decide)
            refine hv_SNp (As := [.long ((kn iw 0).toInt64), .long z9.toInt64]) (rest := [.int w, .ref bx]) hE hml hK hI (c_BP_sumR l hl0 b0 D cA g24 ((kn iw 0).toInt64) z9.toInt64 hz109) cd_BP_sum w388 w389 rfl rfl rfl hl.1 (Nat.le_of_ble_eq_true rfl) d_Box_measureBelow_109 ⟨by decide, by decide⟩ ⟨by decide, by decide⟩ (fun H locs hI => ?_)
            refine W.eq (g2 := F0 m 112 ls [.int ((((kn iw 0).toInt64) + z9.toInt64).toInt32), .int w, .ref bx]) rfl ?_
            refine va_mmax hx hb (hml.trans hl.1.symm) hown (hts _ w322) (hts _ w323) (hts _ w14) (hts _ w324) (by decide) (Nat.le_of_ble_eq_true rfl) (by decide) (by decide) d_Box_measureBelow_112 ?_
            refine W.eq (g2 := F0 m 115 ls [.int (mx w ((((kn iw 0).toInt64) + z9.toInt64).toInt32)), .ref bx]) rfl ?_
            refine hv_put hE k_Box hI 5 (by decide) w339 h25 rfl rfl rfl (Nat.le_of_ble_eq_true rfl) d_Box_measureBelow_115 (fun H locs hI => ?_)
            obtain ⟨g29, eg29⟩ : ∃ z : hv_M, z = hv_up g24 bx (.inr (1, [.int bel, .ref ca, .ref pa, .int dp, .int al, .int (mx w ((((kn iw 0).toInt64) + z9.toInt64).toInt32)), .int (((((h.toInt64 + d.toInt64).toInt32).toInt64) + ((kn ih9 0).toInt64)).toInt32), .int (kn id9 0), .int ex, .int od, .int to, .int ov])) := ⟨_, rfl⟩
            have hI : hv_I D CL b0 g29 s.heap H locs := by rw [eg29]; exact hI
            have h30 : g29 bx = some (.inr (1, [.int bel, .ref ca, .ref pa, .int dp, .int al, .int (mx w ((((kn iw 0).toInt64) + z9.toInt64).toInt32)), .int (((((h.toInt64 + d.toInt64).toInt32).toInt64) + ((kn ih9 0).toInt64)).toInt32), .int (kn id9 0), .int ex, .int od, .int to, .int ov])) := by rw [eg29]; exact hv_up_self _ _ _
            have h31 : g29 pa = some (.inl (cA 0, n, .inl (upd gp i ((h.toInt64 + d.toInt64).toInt32)))) := by rw [eg29]; rw [hv_up_ne _ _ (hv_ne h26 h25 (by simp))]; exact h26
            have h32 : g29 ca = some (.inl (cA 3, n, .inr (.inr (.inr (.inr gc))))) := by rw [eg29]; rw [hv_up_ne _ _ (hv_ne h27 h25 (by simp))]; exact h27
            have h33 : g29 q = some (.inr (2, [.int t, .int iw, .int ih9, .int id9, va_rf inn, .int z9])) := by rw [eg29]; rw [hv_up_ne _ _ (hv_ne h28 h25 (by simp))]; exact h28
            refine lv_goto (tgt := 186) hx hb d_Box_measureBelow_118 (by decide) ?_
            obtain ⟨v34, ev34⟩ : ∃ y : Int32, y = (nI i) + 1 := ⟨_, rfl⟩
            refine lv_iinc (v := v34) (lv' := [(2, .int v34), (3, .ref q), (5, .ref q), (0, .ref bx), (1, .int gr)]) hx hb d_Box_measureBelow_186 hl (k := 4) rfl (by rw [ev34]; rfl) (by decide) rfl (fun ls hl => ?_)
            refine lv_goto (tgt := 2) hx hb d_Box_measureBelow_189 (by decide) ?_
            exact ih (i + 1) (mx w ((((kn iw 0).toInt64) + z9.toInt64).toInt32)) (((((h.toInt64 + d.toInt64).toInt32).toInt64) + ((kn ih9 0).toInt64)).toInt32) (kn id9 0) _ _ _ _ ls (by omega) h30 h31 (fun z z1 z2 => by rw [eg29, hv_up_ne _ _ z1, eg24, hv_up_ne _ _ z1, eg19, hv_up_ne _ _ z1, eg14, hv_up_ne _ _ z2, eg9, hv_up_ne _ _ z1]; exact hfo z z1 z2) (by rw [← heq]; simp only [belowF, hiv, Option.bind_some, Option.bind_none, jsum_t hz44, jsum_t hz74, jsum_t hz109]) hI (by rw [← nI_1, ← ev34]; exact lv_sub hl [3, 4, 0] rfl)
      · rw [hiv] at hq2
        have hgq : g q = some (.inr (3, [.int iw, .int a9, .int b9, .int c9, .int e9])) := by rw [hfo q (hv_ne hq2 hbx (by simp [itE])) (hv_ne hq2 hpa (by simp [itE]))]; exact hq2
        refine lv_iload_n hx hb d_Box_measureBelow_2 rfl (lv_at hl 2 rfl) ?_
        refine lv_aload_n hx hb d_Box_measureBelow_3 rfl (lv_at hl 0 rfl) ?_
        refine hv_get hE k_Box hI 1 (by decide) w331 hgb rfl d_Box_measureBelow_4 ?_
        refine hv_alen hE hI 3 hgc rfl (z := nI n) rfl d_Box_measureBelow_7 ?_
        refine lv_icmp_ge (tgt := 192) hx hb d_Box_measureBelow_8 (by decide) (fun c8 => ?_) (fun c8 => ?_)
        · skip
          exact absurd c8 (nI_ge (by omega) (by omega))
        · skip
          refine lv_aload_n hx hb d_Box_measureBelow_11 rfl (lv_at hl 0 rfl) ?_
          refine hv_get hE k_Box hI 1 (by decide) w331 hgb rfl d_Box_measureBelow_12 ?_
          refine lv_iload_n hx hb d_Box_measureBelow_15 rfl (lv_at hl 2 rfl) ?_
          refine hv_aald hE hI 3 hgc rfl (pk_in i n (by omega) rfl (by omega)) d_Box_measureBelow_16 ?_
          rw [nI_cl (by omega)]
          rw [hq1]
          refine W.eq (g2 := F0 m 17 ls [.ref q]) rfl ?_
          refine lv_astore (lv' := [(5, .ref q), (0, .ref bx), (1, .int gr), (2, .int (nI i))]) hx hb d_Box_measureBelow_17 hl (by decide) rfl (fun ls hl => ?_)
          refine lv_aload hx hb d_Box_measureBelow_19 (lv_at hl 0 rfl) ?_
          refine hv_instN hE hI hK hgq rfl (nm := "BoxPacker$Solid") (by decide) w321 d_Box_measureBelow_21 ?_
          refine lv_if_eq (tgt := 121) hx hb d_Box_measureBelow_24 (by decide) (fun c24 => ?_) (fun c24 => ?_)
          · skip
            refine lv_aload_n hx hb d_Box_measureBelow_121 rfl (lv_at hl 1 rfl) ?_
            refine hv_get hE k_Box hI 1 (by decide) w331 hgb rfl d_Box_measureBelow_122 ?_
            refine lv_iload_n hx hb d_Box_measureBelow_125 rfl (lv_at hl 3 rfl) ?_
            refine hv_aald hE hI 3 hgc rfl (pk_in i n (by omega) rfl (by omega)) d_Box_measureBelow_126 ?_
            rw [nI_cl (by omega)]
            rw [hq1]
            refine W.eq (g2 := F0 m 127 ls [.ref q]) rfl ?_
            refine lv_astore (lv' := [(5, .ref q), (0, .ref bx), (1, .int gr), (2, .int (nI i))]) hx hb d_Box_measureBelow_127 hl (by decide) rfl (fun ls hl => ?_)
            refine lv_aload hx hb d_Box_measureBelow_129 (lv_at hl 0 rfl) ?_
            refine hv_instS hE hI hgq rfl w413 d_Box_measureBelow_131 ?_
            refine lv_if_eq (tgt := 186) hx hb d_Box_measureBelow_134 (by decide) (fun c134 => ?_) (fun c134 => ?_)
            · skip
              exact absurd c134 (by decide)
            · skip
              refine lv_aload hx hb d_Box_measureBelow_137 (lv_at hl 0 rfl) ?_
              refine hv_castS hE hI hgq rfl w413 d_Box_measureBelow_139 ?_
              refine lv_astore (lv' := [(4, .ref q), (5, .ref q), (0, .ref bx), (1, .int gr), (2, .int (nI i))]) hx hb d_Box_measureBelow_142 hl (by decide) rfl (fun ls hl => ?_)
              refine lv_aload_n hx hb d_Box_measureBelow_144 rfl (lv_at hl 2 rfl) ?_
              refine hv_get hE k_Box hI 2 (by decide) w333 hgb rfl d_Box_measureBelow_145 ?_
              refine lv_iload_n hx hb d_Box_measureBelow_148 rfl (lv_at hl 4 rfl) ?_
              refine lv_aload_n hx hb d_Box_measureBelow_149 rfl (lv_at hl 2 rfl) ?_
              refine hv_get hE k_Box hI 6 (by decide) w341 hgb rfl d_Box_measureBelow_150 ?_
              refine hv_iast hE hI 0 hgp rfl (pk_in i n (by omega) rfl (by omega)) d_Box_measureBelow_153 (fun H locs hI => ?_)
              rw [nI_cl (by omega)] at hI
              obtain ⟨g35, eg35⟩ : ∃ z : hv_M, z = hv_up g pa (.inl (cA 0, n, .inl (upd gp i h))) := ⟨_, rfl⟩
              have hI : hv_I D CL b0 g35 s.heap H locs := by rw [eg35]; exact hI
              have h36 : g35 bx = some (.inr (1, [.int bel, .ref ca, .ref pa, .int dp, .int al, .int w, .int h, .int d, .int ex, .int od, .int to, .int ov])) := by rw [eg35]; rw [hv_up_ne _ _ (hv_ne hgb hgp (by simp))]; exact hgb
              have h37 : g35 pa = some (.inl (cA 0, n, .inl (upd gp i h))) := by rw [eg35]; exact hv_up_self _ _ _
              have h38 : g35 ca = some (.inl (cA 3, n, .inr (.inr (.inr (.inr gc))))) := by rw [eg35]; rw [hv_up_ne _ _ (hv_ne hgc hgp (by simp))]; exact hgc
              have h39 : g35 q = some (.inr (3, [.int iw, .int a9, .int b9, .int c9, .int e9])) := by rw [eg35]; rw [hv_up_ne _ _ (hv_ne hgq hgp (by simp))]; exact hgq
              refine lv_aload_n hx hb d_Box_measureBelow_154 rfl (lv_at hl 2 rfl) ?_
              refine lv_aload_n hx hb d_Box_measureBelow_155 rfl (lv_at hl 2 rfl) ?_
              refine hv_get hE k_Box hI 6 (by decide) w341 h36 rfl d_Box_measureBelow_156 ?_
              refine lv_i2l (v := h.toInt64) hx hb d_Box_measureBelow_159 rfl ?_
              refine lv_aload_n hx hb d_Box_measureBelow_160 rfl (lv_at hl 2 rfl) ?_
              refine hv_get hE k_Box hI 7 (by decide) w343 h36 rfl d_Box_measureBelow_161 ?_
              refine lv_i2l (v := d.toInt64) hx hb d_Box_measureBelow_164 rfl ?_
              by_cases hz165 : sz (h.toInt64 + d.toInt64) = true
              rotate_left
              · refine hv_SN (As := [.long h.toInt64, .long d.toInt64]) (rest := [.ref bx]) hE hml hK hI (c_BP_sumX l hl0 b0 D cA g35 h.toInt64 d.toInt64 hz165) cd_BP_sum w388 w389 rfl hl.1 (Nat.le_of_ble_eq_true rfl) d_Box_measureBelow_165 ⟨by decide, by decide⟩ ⟨by decide, by decide⟩ (fun v9 g9 H locs hp hI => hp.elim) (fun q9 E9 ce9 g9 H locs hp hI hce hcv hcl => ?_)
                obtain ⟨hE9, hg9, -⟩ := hp
                rw [hg9] at hI
                rw [hE9] at hcl
                exact hv_out hout hlocks hI hK hce hcv hcl (⟨rfl, by rw [← heq]; simp only [belowF, hiv, Option.bind_some, Option.bind_none, jsum_f hz165], fun z z1 z2 => by rw [eg35, hv_up_ne _ _ z2]; exact hfo z z1 z2⟩) (by decide) (by decide)
              refine hv_SNp (As := [.long h.toInt64, .long d.toInt64]) (rest := [.ref bx]) hE hml hK hI (c_BP_sumR l hl0 b0 D cA g35 h.toInt64 d.toInt64 hz165) cd_BP_sum w388 w389 rfl rfl rfl hl.1 (Nat.le_of_ble_eq_true rfl) d_Box_measureBelow_165 ⟨by decide, by decide⟩ ⟨by decide, by decide⟩ (fun H locs hI => ?_)
              refine W.eq (g2 := F0 m 168 ls [.int ((h.toInt64 + d.toInt64).toInt32), .ref bx]) rfl ?_
              refine lv_i2l (v := ((h.toInt64 + d.toInt64).toInt32).toInt64) hx hb d_Box_measureBelow_168 rfl ?_
              refine lv_aload hx hb d_Box_measureBelow_169 (lv_at hl 0 rfl) ?_
              refine hv_getN hE k_Space hI 0 (by decide) w252 h39 rfl d_Box_measureBelow_171 ?_
              refine lv_i2l (v := iw.toInt64) hx hb d_Box_measureBelow_174 rfl ?_
              by_cases hz175 : sz ((((h.toInt64 + d.toInt64).toInt32).toInt64) + iw.toInt64) = true
              rotate_left
              · refine hv_SN (As := [.long (((h.toInt64 + d.toInt64).toInt32).toInt64), .long iw.toInt64]) (rest := [.ref bx]) hE hml hK hI (c_BP_sumX l hl0 b0 D cA g35 (((h.toInt64 + d.toInt64).toInt32).toInt64) iw.toInt64 hz175) cd_BP_sum w388 w389 rfl hl.1 (Nat.le_of_ble_eq_true rfl) d_Box_measureBelow_175 ⟨by decide, by decide⟩ ⟨by decide, by decide⟩ (fun v9 g9 H locs hp hI => hp.elim) (fun q9 E9 ce9 g9 H locs hp hI hce hcv hcl => ?_)
                obtain ⟨hE9, hg9, -⟩ := hp
                rw [hg9] at hI
                rw [hE9] at hcl
                exact hv_out hout hlocks hI hK hce hcv hcl (⟨rfl, by rw [← heq]; simp only [belowF, hiv, Option.bind_some, Option.bind_none, jsum_t hz165, jsum_f hz175], fun z z1 z2 => by rw [eg35, hv_up_ne _ _ z2]; exact hfo z z1 z2⟩) (by decide) (by decide)
              refine hv_SNp (As := [.long (((h.toInt64 + d.toInt64).toInt32).toInt64), .long iw.toInt64]) (rest := [.ref bx]) hE hml hK hI (c_BP_sumR l hl0 b0 D cA g35 (((h.toInt64 + d.toInt64).toInt32).toInt64) iw.toInt64 hz175) cd_BP_sum w388 w389 rfl rfl rfl hl.1 (Nat.le_of_ble_eq_true rfl) d_Box_measureBelow_175 ⟨by decide, by decide⟩ ⟨by decide, by decide⟩ (fun H locs hI => ?_)
              refine W.eq (g2 := F0 m 178 ls [.int (((((h.toInt64 + d.toInt64).toInt32).toInt64) + iw.toInt64).toInt32), .ref bx]) rfl ?_
              refine hv_put hE k_Box hI 6 (by decide) w341 h36 rfl rfl rfl (Nat.le_of_ble_eq_true rfl) d_Box_measureBelow_178 (fun H locs hI => ?_)
              obtain ⟨g40, eg40⟩ : ∃ z : hv_M, z = hv_up g35 bx (.inr (1, [.int bel, .ref ca, .ref pa, .int dp, .int al, .int w, .int (((((h.toInt64 + d.toInt64).toInt32).toInt64) + iw.toInt64).toInt32), .int d, .int ex, .int od, .int to, .int ov])) := ⟨_, rfl⟩
              have hI : hv_I D CL b0 g40 s.heap H locs := by rw [eg40]; exact hI
              have h41 : g40 bx = some (.inr (1, [.int bel, .ref ca, .ref pa, .int dp, .int al, .int w, .int (((((h.toInt64 + d.toInt64).toInt32).toInt64) + iw.toInt64).toInt32), .int d, .int ex, .int od, .int to, .int ov])) := by rw [eg40]; exact hv_up_self _ _ _
              have h42 : g40 pa = some (.inl (cA 0, n, .inl (upd gp i h))) := by rw [eg40]; rw [hv_up_ne _ _ (hv_ne h37 h36 (by simp))]; exact h37
              have h43 : g40 ca = some (.inl (cA 3, n, .inr (.inr (.inr (.inr gc))))) := by rw [eg40]; rw [hv_up_ne _ _ (hv_ne h38 h36 (by simp))]; exact h38
              have h44 : g40 q = some (.inr (3, [.int iw, .int a9, .int b9, .int c9, .int e9])) := by rw [eg40]; rw [hv_up_ne _ _ (hv_ne h39 h36 (by simp))]; exact h39
              refine lv_aload_n hx hb d_Box_measureBelow_181 rfl (lv_at hl 2 rfl) ?_
              refine lv_iconst (v := 0) hx hb d_Box_measureBelow_182 (by decide) ?_
              refine hv_put hE k_Box hI 7 (by decide) w343 h41 rfl rfl rfl (Nat.le_of_ble_eq_true rfl) d_Box_measureBelow_183 (fun H locs hI => ?_)
              obtain ⟨g45, eg45⟩ : ∃ z : hv_M, z = hv_up g40 bx (.inr (1, [.int bel, .ref ca, .ref pa, .int dp, .int al, .int w, .int (((((h.toInt64 + d.toInt64).toInt32).toInt64) + iw.toInt64).toInt32), .int 0, .int ex, .int od, .int to, .int ov])) := ⟨_, rfl⟩
              have hI : hv_I D CL b0 g45 s.heap H locs := by rw [eg45]; exact hI
              have h46 : g45 bx = some (.inr (1, [.int bel, .ref ca, .ref pa, .int dp, .int al, .int w, .int (((((h.toInt64 + d.toInt64).toInt32).toInt64) + iw.toInt64).toInt32), .int 0, .int ex, .int od, .int to, .int ov])) := by rw [eg45]; exact hv_up_self _ _ _
              have h47 : g45 pa = some (.inl (cA 0, n, .inl (upd gp i h))) := by rw [eg45]; rw [hv_up_ne _ _ (hv_ne h42 h41 (by simp))]; exact h42
              have h48 : g45 ca = some (.inl (cA 3, n, .inr (.inr (.inr (.inr gc))))) := by rw [eg45]; rw [hv_up_ne _ _ (hv_ne h43 h41 (by simp))]; exact h43
              have h49 : g45 q = some (.inr (3, [.int iw, .int a9, .int b9, .int c9, .int e9])) := by rw [eg45]; rw [hv_up_ne _ _ (hv_ne h44 h41 (by simp))]; exact h44
              obtain ⟨v50, ev50⟩ : ∃ y : Int32, y = (nI i) + 1 := ⟨_, rfl⟩
              refine lv_iinc (v := v50) (lv' := [(2, .int v50), (4, .ref q), (5, .ref q), (0, .ref bx), (1, .int gr)]) hx hb d_Box_measureBelow_186 hl (k := 4) rfl (by rw [ev50]; rfl) (by decide) rfl (fun ls hl => ?_)
              refine lv_goto (tgt := 2) hx hb d_Box_measureBelow_189 (by decide) ?_
              exact ih (i + 1) w (((((h.toInt64 + d.toInt64).toInt32).toInt64) + iw.toInt64).toInt32) 0 _ _ _ _ ls (by omega) h46 h47 (fun z z1 z2 => by rw [eg45, hv_up_ne _ _ z1, eg40, hv_up_ne _ _ z1, eg35, hv_up_ne _ _ z2]; exact hfo z z1 z2) (by rw [← heq]; simp only [belowF, hiv, Option.bind_some, Option.bind_none, jsum_t hz165, jsum_t hz175]) hI (by rw [← nI_1, ← ev50]; exact lv_sub hl [3, 4, 0] rfl)
          · skip
            exact absurd rfl c24
  exact loop n 0 0 0 0 gp0 f _ _ ls (by omega) hbx hpa (fun z _ _ => rfl) rfl hI (lv_sub hl [1, 2, 0] rfl)
end
section
set_option maxHeartbeats 4000000 in
set_option maxRecDepth 100000 in
theorem c_BP_dividedToNearest (l : Launch) (hl0 : l.stackTraces = false) (b0 : Nat) (D : va_G) (cA : Nat → ClassId) (f : hv_M) (x : Int64) (dv : Int32) (hdv : ¬ (2 : Int64) * dv.toInt64 = 0) : hv_Met l y_BP_dividedToNearest [Cond.code y_BP_dividedToNearest b_BP_dividedToNearest 7 (some FieldType.int)] (RM 0 0 0) b0 (Fa D cA) D CL [.long x, .int dv] f (PV f (some (.int (dtn x dv)))) (NX) := by
  refine hv_Met.of (own := "BoxPacker") (by decide) rfl (Nat.le_of_ble_eq_true rfl) ?_
  intro p e s m below meth c hE hml hout hr hlocks hname hK hI ls hl
  have hl : lv_has ls 7 [(0, .long x), (2, .int dv)] := hl
  obtain ⟨hx, hb, hown, hts, hVK⟩ := id hE
  refine lv_lload_n hx hb d_BP_dividedToNearest_0 rfl (lv_at hl 0 rfl) ?_
  refine lv_lconst (v := 0) hx hb d_BP_dividedToNearest_1 (by decide) ?_
  refine W.lcmp hx hb d_BP_dividedToNearest_2 ?_
  refine lv_if_ge (tgt := 11) hx hb d_BP_dividedToNearest_3 (by decide) (fun c3 => ?_) (fun c3 => ?_)
  · skip
    refine lv_lload_n hx hb d_BP_dividedToNearest_11 rfl (lv_at hl 0 rfl) ?_
    refine lv_lstore_n (lv' := [(3, .long x), (0, .long x), (2, .int dv)]) hx hb d_BP_dividedToNearest_12 rfl hl (by decide) rfl (fun ls hl => ?_)
    refine lv_ldc2 (v := 2) hx hb hown (hts _ w445) d_BP_dividedToNearest_13 ?_
    refine lv_lload_n hx hb d_BP_dividedToNearest_16 rfl (lv_at hl 0 rfl) ?_
    refine lv_lmul hx hb d_BP_dividedToNearest_17 ?_
    refine lv_iload_n hx hb d_BP_dividedToNearest_18 rfl (lv_at hl 2 rfl) ?_
    refine lv_i2l (v := dv.toInt64) hx hb d_BP_dividedToNearest_19 rfl ?_
    refine lv_ladd hx hb d_BP_dividedToNearest_20 ?_
    refine lv_ldc2 (v := 2) hx hb hown (hts _ w445) d_BP_dividedToNearest_21 ?_
    refine lv_iload_n hx hb d_BP_dividedToNearest_24 rfl (lv_at hl 2 rfl) ?_
    refine lv_i2l (v := dv.toInt64) hx hb d_BP_dividedToNearest_25 rfl ?_
    refine lv_lmul hx hb d_BP_dividedToNearest_26 ?_
    refine lv_ldiv hx hb d_BP_dividedToNearest_27 hdv ?_
    refine lv_lstore (lv' := [(5, .long (((2 * x) + dv.toInt64) / (2 * dv.toInt64))), (3, .long x), (0, .long x), (2, .int dv)]) hx hb d_BP_dividedToNearest_28 hl (by decide) rfl (fun ls hl => ?_)
    refine lv_lload_n hx hb d_BP_dividedToNearest_30 rfl (lv_at hl 2 rfl) ?_
    refine lv_lconst (v := 0) hx hb d_BP_dividedToNearest_31 (by decide) ?_
    refine W.lcmp hx hb d_BP_dividedToNearest_32 ?_
    refine lv_if_ge (tgt := 42) hx hb d_BP_dividedToNearest_33 (by decide) (fun c33 => ?_) (fun c33 => ?_)
    · skip
      refine lv_lload hx hb d_BP_dividedToNearest_42 (lv_at hl 0 rfl) ?_
      refine lv_l2i (v := (((2 * x) + dv.toInt64) / (2 * dv.toInt64)).toInt32) hx hb d_BP_dividedToNearest_44 rfl ?_
      exact hv_iret hE hr hlocks hI hK (v := (((2 * x) + dv.toInt64) / (2 * dv.toInt64)).toInt32) (⟨by rw [dtn, lab, if_neg (Int64.not_lt.mpr ((lg_cmp_ge x 0).mp c3)), if_neg (Int64.not_lt.mpr ((lg_cmp_ge x 0).mp c3))], rfl⟩) (by decide) (by decide) d_BP_dividedToNearest_45
    · skip
      exact absurd c3 c33
  · skip
    refine lv_lload_n hx hb d_BP_dividedToNearest_6 rfl (lv_at hl 0 rfl) ?_
    refine lv_lneg hx hb d_BP_dividedToNearest_7 ?_
    refine lv_goto (tgt := 12) hx hb d_BP_dividedToNearest_8 (by decide) ?_
    refine lv_lstore_n (lv' := [(3, .long (-x)), (0, .long x), (2, .int dv)]) hx hb d_BP_dividedToNearest_12 rfl hl (by decide) rfl (fun ls hl => ?_)
    refine lv_ldc2 (v := 2) hx hb hown (hts _ w445) d_BP_dividedToNearest_13 ?_
    refine lv_lload_n hx hb d_BP_dividedToNearest_16 rfl (lv_at hl 0 rfl) ?_
    refine lv_lmul hx hb d_BP_dividedToNearest_17 ?_
    refine lv_iload_n hx hb d_BP_dividedToNearest_18 rfl (lv_at hl 2 rfl) ?_
    refine lv_i2l (v := dv.toInt64) hx hb d_BP_dividedToNearest_19 rfl ?_
    refine lv_ladd hx hb d_BP_dividedToNearest_20 ?_
    refine lv_ldc2 (v := 2) hx hb hown (hts _ w445) d_BP_dividedToNearest_21 ?_
    refine lv_iload_n hx hb d_BP_dividedToNearest_24 rfl (lv_at hl 2 rfl) ?_
    refine lv_i2l (v := dv.toInt64) hx hb d_BP_dividedToNearest_25 rfl ?_
    refine lv_lmul hx hb d_BP_dividedToNearest_26 ?_
    refine lv_ldiv hx hb d_BP_dividedToNearest_27 hdv ?_
    refine lv_lstore (lv' := [(5, .long (((2 * (-x)) + dv.toInt64) / (2 * dv.toInt64))), (3, .long (-x)), (0, .long x), (2, .int dv)]) hx hb d_BP_dividedToNearest_28 hl (by decide) rfl (fun ls hl => ?_)
    refine lv_lload_n hx hb d_BP_dividedToNearest_30 rfl (lv_at hl 2 rfl) ?_
    refine lv_lconst (v := 0) hx hb d_BP_dividedToNearest_31 (by decide) ?_
    refine W.lcmp hx hb d_BP_dividedToNearest_32 ?_
    refine lv_if_ge (tgt := 42) hx hb d_BP_dividedToNearest_33 (by decide) (fun c33 => ?_) (fun c33 => ?_)
    · skip
      exact absurd c33 c3
    · skip
      refine lv_lload hx hb d_BP_dividedToNearest_36 (lv_at hl 0 rfl) ?_
      refine lv_lneg hx hb d_BP_dividedToNearest_38 ?_
      refine lv_goto (tgt := 44) hx hb d_BP_dividedToNearest_39 (by decide) ?_
      refine lv_l2i (v := (-(((2 * (-x)) + dv.toInt64) / (2 * dv.toInt64))).toInt32) hx hb d_BP_dividedToNearest_44 rfl ?_
      exact hv_iret hE hr hlocks hI hK (v := (-(((2 * (-x)) + dv.toInt64) / (2 * dv.toInt64))).toInt32) (⟨by rw [dtn, lab, if_pos (Int64.not_le.mp (fun q => c3 ((lg_cmp_ge x 0).mpr q))), if_pos (Int64.not_le.mp (fun q => c3 ((lg_cmp_ge x 0).mpr q)))], rfl⟩) (by decide) (by decide) d_BP_dividedToNearest_45

set_option maxHeartbeats 4000000 in
set_option maxRecDepth 100000 in
theorem c_Box_badnessRatio (l : Launch) (hl0 : l.stackTraces = false) (b0 : Nat) (D : va_G) (cA : Nat → ClassId) (f : hv_M) (mi av : Int32) (hav : ¬ av = 0) : hv_Met l y_Box_badnessRatio [Cond.code y_Box_badnessRatio b_Box_badnessRatio 2 (some FieldType.int)] (RM 0 0 0) b0 (Fa D cA) D CL [.int mi, .int av] f (PV f (some (.int (brat mi av)))) (NX) := by
  refine hv_Met.of (own := "BoxPacker$Box") (by decide) rfl (Nat.le_of_ble_eq_true rfl) ?_
  intro p e s m below meth c hE hml hout hr hlocks hname hK hI ls hl
  have hl : lv_has ls 2 [(0, .int mi), (1, .int av)] := hl
  obtain ⟨hx, hb, hown, hts, hVK⟩ := id hE
  refine lv_iload_n hx hb d_Box_badnessRatio_0 rfl (lv_at hl 0 rfl) ?_
  refine lv_ldc (v := 7230584) hx hb hown (hts _ w463) d_Box_badnessRatio_1 ?_
  refine lv_icmp_gt (tgt := 14) hx hb d_Box_badnessRatio_3 (by decide) (fun c3 => ?_) (fun c3 => ?_)
  · skip
    refine lv_iload_n hx hb d_Box_badnessRatio_14 rfl (lv_at hl 1 rfl) ?_
    refine lv_ldc (v := 1663497) hx hb hown (hts _ w464) d_Box_badnessRatio_15 ?_
    refine lv_icmp_lt (tgt := 30) hx hb d_Box_badnessRatio_17 (by decide) (fun c17 => ?_) (fun c17 => ?_)
    · skip
      refine lv_iload_n hx hb d_Box_badnessRatio_30 rfl (lv_at hl 0 rfl) ?_
      exact hv_iret hE hr hlocks hI hK (v := mi) (⟨by rw [brat, if_neg (Int32.not_le.mpr c3), if_pos c17], rfl⟩) (by decide) (by decide) d_Box_badnessRatio_31
    · skip
      refine lv_iload_n hx hb d_Box_badnessRatio_20 rfl (lv_at hl 0 rfl) ?_
      refine lv_iload_n hx hb d_Box_badnessRatio_21 rfl (lv_at hl 1 rfl) ?_
      refine lv_sipush (v := 297) hx hb d_Box_badnessRatio_22 (by decide) ?_
      refine lv_idiv hx hb d_Box_badnessRatio_25 (by decide) ?_
      refine lv_idiv hx hb d_Box_badnessRatio_26 (div297 c17) ?_
      refine lv_goto (tgt := 31) hx hb d_Box_badnessRatio_27 (by decide) ?_
      exact hv_iret hE hr hlocks hI hK (v := mi / (av / 297)) (⟨by rw [brat, if_neg (Int32.not_le.mpr c3), if_neg c17], rfl⟩) (by decide) (by decide) d_Box_badnessRatio_31
  · skip
    refine lv_sipush (v := 297) hx hb d_Box_badnessRatio_6 (by decide) ?_
    refine lv_iload_n hx hb d_Box_badnessRatio_9 rfl (lv_at hl 0 rfl) ?_
    refine lv_imul hx hb d_Box_badnessRatio_10 ?_
    refine lv_iload_n hx hb d_Box_badnessRatio_11 rfl (lv_at hl 1 rfl) ?_
    refine lv_idiv hx hb d_Box_badnessRatio_12 hav ?_
    exact hv_iret hE hr hlocks hI hK (v := (297 * mi) / av) (⟨by rw [brat, if_pos (Int32.not_lt.mp c3)], rfl⟩) (by decide) (by decide) d_Box_badnessRatio_13

set_option maxHeartbeats 4000000 in
set_option maxRecDepth 100000 in
theorem c_Box_badness (l : Launch) (hl0 : l.stackTraces = false) (b0 : Nat) (D : va_G) (cA : Nat → ClassId) (f : hv_M) (bx ca pa : Nat) (bel dp al w h d ex od to ov : Int32) (hbx : f bx = some (.inr (1, [.int bel, .ref ca, .ref pa, .int dp, .int al, .int w, .int h, .int d, .int ex, .int od, .int to, .int ov]))) : hv_Met l y_Box_badness [Cond.code y_Box_badness b_Box_badness 2 (some FieldType.int)] (RM 1 0 0) b0 (Fa D cA) D CL [.ref bx] f (PV f (some (.int (badF ex od to ov)))) (NX) := by
  refine hv_Met.of (own := "BoxPacker$Box") (by decide) rfl (Nat.le_of_ble_eq_true rfl) ?_
  intro p e s m below meth c hE hml hout hr hlocks hname hK hI ls hl
  have hl : lv_has ls 2 [(0, .ref bx)] := hl
  obtain ⟨hx, hb, hown, hts, hVK⟩ := id hE
  refine lv_aload_n hx hb d_Box_badness_0 rfl (lv_at hl 0 rfl) ?_
  refine hv_get hE k_Box hI 11 (by decide) w351 hbx rfl d_Box_badness_1 ?_
  refine lv_if_le (tgt := 10) hx hb d_Box_badness_4 (by decide) (fun c4 => ?_) (fun c4 => ?_)
  · skip
    refine lv_aload_n hx hb d_Box_badness_10 rfl (lv_at hl 0 rfl) ?_
    refine hv_get hE k_Box hI 8 (by decide) w345 hbx rfl d_Box_badness_11 ?_
    refine lv_if_eq (tgt := 24) hx hb d_Box_badness_14 (by decide) (fun c14 => ?_) (fun c14 => ?_)
    · skip
      refine lv_iconst (v := 0) hx hb d_Box_badness_24 (by decide) ?_
      exact hv_iret hE hr hlocks hI hK (v := 0) (⟨by rw [badF, if_neg (Int32.not_lt.mpr c4), if_pos (Or.inl c14)], rfl⟩) (by decide) (by decide) d_Box_badness_25
    · skip
      refine lv_aload_n hx hb d_Box_badness_17 rfl (lv_at hl 0 rfl) ?_
      refine hv_get hE k_Box hI 9 (by decide) w347 hbx rfl d_Box_badness_18 ?_
      refine lv_if_le (tgt := 26) hx hb d_Box_badness_21 (by decide) (fun c21 => ?_) (fun c21 => ?_)
      · skip
        refine lv_aload_n hx hb d_Box_badness_26 rfl (lv_at hl 0 rfl) ?_
        refine hv_get hE k_Box hI 10 (by decide) w349 hbx rfl d_Box_badness_27 ?_
        refine lv_if_ne (tgt := 37) hx hb d_Box_badness_30 (by decide) (fun c30 => ?_) (fun c30 => ?_)
        · skip
          refine lv_aload_n hx hb d_Box_badness_37 rfl (lv_at hl 0 rfl) ?_
          refine hv_get hE k_Box hI 8 (by decide) w345 hbx rfl d_Box_badness_38 ?_
          refine va_mabs hx hb (hml.trans hl.1.symm) hown (hts _ w457) (hts _ w458) (hts _ w14) (hts _ w459) (by decide) (Nat.le_of_ble_eq_true rfl) (by decide) (by decide) d_Box_badness_41 ?_
          refine W.eq (g2 := F0 m 44 ls [.int (ab ex)]) rfl ?_
          refine lv_aload_n hx hb d_Box_badness_44 rfl (lv_at hl 0 rfl) ?_
          refine hv_get hE k_Box hI 10 (by decide) w349 hbx rfl d_Box_badness_45 ?_
          refine hv_Sp (As := [.int (ab ex), .int to]) (rest := []) hE hml hK hI (c_Box_badnessRatio l hl0 b0 D cA f (ab ex) to c30) cd_Box_badnessRatio w460 w461 rfl rfl rfl hl.1 (Nat.le_of_ble_eq_true rfl) d_Box_badness_48 ⟨by decide, by decide⟩ ⟨by decide, by decide⟩ (fun H locs hI => ?_)
          refine W.eq (g2 := F0 m 51 ls [.int (brat (ab ex) to)]) rfl ?_
          refine lv_istore_n (lv' := [(1, .int (brat (ab ex) to)), (0, .ref bx)]) hx hb d_Box_badness_51 rfl hl (by decide) rfl (fun ls hl => ?_)
          refine lv_iload_n hx hb d_Box_badness_52 rfl (lv_at hl 0 rfl) ?_
          refine lv_sipush (v := 1290) hx hb d_Box_badness_53 (by decide) ?_
          refine lv_icmp_le (tgt := 65) hx hb d_Box_badness_56 (by decide) (fun c56 => ?_) (fun c56 => ?_)
          · skip
            refine lv_iload_n hx hb d_Box_badness_65 rfl (lv_at hl 0 rfl) ?_
            refine lv_iload_n hx hb d_Box_badness_66 rfl (lv_at hl 0 rfl) ?_
            refine lv_imul hx hb d_Box_badness_67 ?_
            refine lv_iload_n hx hb d_Box_badness_68 rfl (lv_at hl 0 rfl) ?_
            refine lv_imul hx hb d_Box_badness_69 ?_
            refine lv_ldc (v := 131072) hx hb hown (hts _ w465) d_Box_badness_70 ?_
            refine lv_iadd hx hb d_Box_badness_72 ?_
            refine lv_ldc (v := 262144) hx hb hown (hts _ w466) d_Box_badness_73 ?_
            refine lv_idiv hx hb d_Box_badness_75 (by decide) ?_
            exact hv_iret hE hr hlocks hI hK (v := ((((brat (ab ex) to) * (brat (ab ex) to)) * (brat (ab ex) to)) + 131072) / 262144) (⟨by rw [badF, if_neg (Int32.not_lt.mpr c4), if_neg (fun q => q.elim c14 (fun r => Int32.not_lt.mpr c21 r)), if_neg c30, if_pos c56], rfl⟩) (by decide) (by decide) d_Box_badness_76
          · skip
            refine lv_sipush (v := 10000) hx hb d_Box_badness_59 (by decide) ?_
            refine lv_goto (tgt := 76) hx hb d_Box_badness_62 (by decide) ?_
            exact hv_iret hE hr hlocks hI hK (v := 10000) (⟨by rw [badF, if_neg (Int32.not_lt.mpr c4), if_neg (fun q => q.elim c14 (fun r => Int32.not_lt.mpr c21 r)), if_neg c30, if_neg (Int32.not_le.mpr (Int32.not_le.mp c56))], rfl⟩) (by decide) (by decide) d_Box_badness_76
        · skip
          refine lv_sipush (v := 10000) hx hb d_Box_badness_33 (by decide) ?_
          exact hv_iret hE hr hlocks hI hK (v := 10000) (⟨by rw [badF, if_neg (Int32.not_lt.mpr c4), if_neg (fun q => q.elim c14 (fun r => Int32.not_lt.mpr c21 r)), if_pos c30], rfl⟩) (by decide) (by decide) d_Box_badness_36
      · skip
        refine lv_iconst (v := 0) hx hb d_Box_badness_24 (by decide) ?_
        exact hv_iret hE hr hlocks hI hK (v := 0) (⟨by rw [badF, if_neg (Int32.not_lt.mpr c4), if_pos (Or.inr (Int32.not_le.mp c21))], rfl⟩) (by decide) (by decide) d_Box_badness_25
  · skip
    refine lv_ldc (v := 1000000) hx hb hown (hts _ w325) d_Box_badness_7 ?_
    exact hv_iret hE hr hlocks hI hK (v := 1000000) (⟨by rw [badF, if_pos (Int32.not_le.mp c4)], rfl⟩) (by decide) (by decide) d_Box_badness_9
end
section
set_option maxHeartbeats 4000000 in
set_option maxRecDepth 100000 in
theorem c_Box_fillUp (l : Launch) (hl0 : l.stackTraces = false) (b0 : Nat) (D : va_G) (cA : Nat → ClassId) (f : hv_M) (bx ca pa : Nat) (bel : Bool) (dp al w h d od to ov how size : Int32) (hbx : f bx = some (.inr (1, [.int (b2i bel), .ref ca, .ref pa, .int dp, .int al, .int w, .int h, .int d, .int 0, .int od, .int to, .int ov]))) : hv_Met l y_Box_fillUp [Cond.code y_Box_fillUp b_Box_fillUp 5 none] (RM 3 1 6) b0 (Fa D cA) D CL [.ref bx, .int how, .int size] f (fun v g => v = none ∧ ∃ ex ln : Int32, fillF bel how size w h = some (ex, ln) ∧ g = hv_up f bx (.inr (1, [.int (b2i bel), .ref ca, .ref pa, .int dp, .int al, .int (if bel = true then w else ln), .int (if bel = true then ln else h), .int d, .int ex, .int od, .int to, .int ov]))) (fun E g => E = "java/lang/IllegalStateException" ∧ fillF bel how size w h = none ∧ ∀ z, z ≠ bx → g z = f z) := by
  refine hv_Met.of (own := "BoxPacker$Box") (by decide) rfl (Nat.le_of_ble_eq_true rfl) ?_
  intro p e s m below meth c hE hml hout hr hlocks hname hK hI ls hl
  have hl : lv_has ls 5 [(0, .ref bx), (1, .int how), (2, .int size)] := hl
  obtain ⟨hx, hb, hown, hts, hVK⟩ := id hE
  refine lv_aload_n hx hb d_Box_fillUp_0 rfl (lv_at hl 0 rfl) ?_
  refine hv_get hE k_Box hI 0 (by decide) w329 hbx rfl d_Box_fillUp_1 ?_
  refine lv_if_eq (tgt := 14) hx hb d_Box_fillUp_4 (by decide) (fun c4 => ?_) (fun c4 => ?_)
  · skip
    have hbl : ¬ bel = true := by rw [b2i_ne.mp c4]; decide
    refine lv_aload_n hx hb d_Box_fillUp_14 rfl (lv_at hl 0 rfl) ?_
    refine hv_get hE k_Box hI 5 (by decide) w339 hbx rfl d_Box_fillUp_15 ?_
    refine lv_istore_n (lv' := [(3, .int w), (0, .ref bx), (1, .int how), (2, .int size)]) hx hb d_Box_fillUp_18 rfl hl (by decide) rfl (fun ls hl => ?_)
    refine lv_iload_n hx hb d_Box_fillUp_19 rfl (lv_at hl 2 rfl) ?_
    refine lv_iconst (v := 1) hx hb d_Box_fillUp_20 (by decide) ?_
    refine lv_icmp_ne (tgt := 39) hx hb d_Box_fillUp_21 (by decide) (fun c21 => ?_) (fun c21 => ?_)
    · skip
      refine lv_iload_n hx hb d_Box_fillUp_39 rfl (lv_at hl 2 rfl) ?_
      refine lv_iconst (v := 2) hx hb d_Box_fillUp_40 (by decide) ?_
      refine lv_icmp_ne (tgt := 49) hx hb d_Box_fillUp_41 (by decide) (fun c41 => ?_) (fun c41 => ?_)
      · skip
        refine lv_iload_n hx hb d_Box_fillUp_49 rfl (lv_at hl 0 rfl) ?_
        refine lv_i2l (v := w.toInt64) hx hb d_Box_fillUp_50 rfl ?_
        refine lv_aload_n hx hb d_Box_fillUp_51 rfl (lv_at hl 1 rfl) ?_
        refine hv_get hE k_Box hI 8 (by decide) w345 hbx rfl d_Box_fillUp_52 ?_
        refine lv_i2l (v := (0 : Int32).toInt64) hx hb d_Box_fillUp_55 rfl ?_
        by_cases hz56 : sz (w.toInt64 + ((0 : Int32).toInt64)) = true
        rotate_left
        · refine hv_SN (As := [.long w.toInt64, .long ((0 : Int32).toInt64)]) (rest := []) hE hml hK hI (c_BP_sumX l hl0 b0 D cA f w.toInt64 ((0 : Int32).toInt64) hz56) cd_BP_sum w388 w389 rfl hl.1 (Nat.le_of_ble_eq_true rfl) d_Box_fillUp_56 ⟨by decide, by decide⟩ ⟨by decide, by decide⟩ (fun v9 g9 H locs hp hI => hp.elim) (fun q9 E9 ce9 g9 H locs hp hI hce hcv hcl => ?_)
          obtain ⟨hE9, hg9, -⟩ := hp
          rw [hg9] at hI
          rw [hE9] at hcl
          exact hv_out hout hlocks hI hK hce hcv hcl (⟨rfl, by simp only [fillF, if_neg hbl, if_neg c21, if_neg c41, Option.bind_some, Option.bind_none, jsum_f hz56], fun z z1 => rfl⟩) (by decide) (by decide)
        refine hv_SNp (As := [.long w.toInt64, .long ((0 : Int32).toInt64)]) (rest := []) hE hml hK hI (c_BP_sumR l hl0 b0 D cA f w.toInt64 ((0 : Int32).toInt64) hz56) cd_BP_sum w388 w389 rfl rfl rfl hl.1 (Nat.le_of_ble_eq_true rfl) d_Box_fillUp_56 ⟨by decide, by decide⟩ ⟨by decide, by decide⟩ (fun H locs hI => ?_)
        refine W.eq (g2 := F0 m 59 ls [.int ((w.toInt64 + ((0 : Int32).toInt64)).toInt32)]) rfl ?_
        refine lv_istore (lv' := [(4, .int ((w.toInt64 + ((0 : Int32).toInt64)).toInt32)), (3, .int w), (0, .ref bx), (1, .int how), (2, .int size)]) hx hb d_Box_fillUp_59 hl (by decide) rfl (fun ls hl => ?_)
        refine lv_aload_n hx hb d_Box_fillUp_61 rfl (lv_at hl 2 rfl) ?_
        refine hv_get hE k_Box hI 0 (by decide) w329 hbx rfl d_Box_fillUp_62 ?_
        refine lv_if_eq (tgt := 77) hx hb d_Box_fillUp_65 (by decide) (fun c65 => ?_) (fun c65 => ?_)
        · skip
          refine lv_aload_n hx hb d_Box_fillUp_77 rfl (lv_at hl 2 rfl) ?_
          refine lv_iload hx hb d_Box_fillUp_78 (lv_at hl 0 rfl) ?_
          refine hv_put hE k_Box hI 5 (by decide) w339 hbx rfl rfl rfl (Nat.le_of_ble_eq_true rfl) d_Box_fillUp_80 (fun H locs hI => ?_)
          obtain ⟨g1, eg1⟩ : ∃ z : hv_M, z = hv_up f bx (.inr (1, [.int (b2i bel), .ref ca, .ref pa, .int dp, .int al, .int ((w.toInt64 + ((0 : Int32).toInt64)).toInt32), .int h, .int d, .int 0, .int od, .int to, .int ov])) := ⟨_, rfl⟩
          have hI : hv_I D CL b0 g1 s.heap H locs := by rw [eg1]; exact hI
          have h2 : g1 bx = some (.inr (1, [.int (b2i bel), .ref ca, .ref pa, .int dp, .int al, .int ((w.toInt64 + ((0 : Int32).toInt64)).toInt32), .int h, .int d, .int 0, .int od, .int to, .int ov])) := by rw [eg1]; exact hv_up_self _ _ _
          exact hv_vret hE hr hlocks hI hK (⟨rfl, 0, (w.toInt64 + ((0 : Int32).toInt64)).toInt32, by simp only [fillF, if_neg hbl, if_neg c21, if_neg c41, Option.bind_some, Option.bind_none, jsum_t hz56], by simp only [eg1, hv_up_up, if_neg hbl]⟩) (by decide) (by decide) d_Box_fillUp_83
        · skip
          exact absurd c4 c65
      · skip
        refine lv_aload_n hx hb d_Box_fillUp_44 rfl (lv_at hl 1 rfl) ?_
        refine lv_iload_n hx hb d_Box_fillUp_45 rfl (lv_at hl 3 rfl) ?_
        refine hv_put hE k_Box hI 8 (by decide) w345 hbx rfl rfl rfl (Nat.le_of_ble_eq_true rfl) d_Box_fillUp_46 (fun H locs hI => ?_)
        obtain ⟨g3, eg3⟩ : ∃ z : hv_M, z = hv_up f bx (.inr (1, [.int (b2i bel), .ref ca, .ref pa, .int dp, .int al, .int w, .int h, .int d, .int size, .int od, .int to, .int ov])) := ⟨_, rfl⟩
        have hI : hv_I D CL b0 g3 s.heap H locs := by rw [eg3]; exact hI
        have h4 : g3 bx = some (.inr (1, [.int (b2i bel), .ref ca, .ref pa, .int dp, .int al, .int w, .int h, .int d, .int size, .int od, .int to, .int ov])) := by rw [eg3]; exact hv_up_self _ _ _
        refine lv_iload_n hx hb d_Box_fillUp_49 rfl (lv_at hl 0 rfl) ?_
        refine lv_i2l (v := w.toInt64) hx hb d_Box_fillUp_50 rfl ?_
        refine lv_aload_n hx hb d_Box_fillUp_51 rfl (lv_at hl 1 rfl) ?_
        refine hv_get hE k_Box hI 8 (by decide) w345 h4 rfl d_Box_fillUp_52 ?_
        refine lv_i2l (v := size.toInt64) hx hb d_Box_fillUp_55 rfl ?_
        by_cases hz56 : sz (w.toInt64 + size.toInt64) = true
        rotate_left
        · refine hv_SN (As := [.long w.toInt64, .long size.toInt64]) (rest := []) hE hml hK hI (c_BP_sumX l hl0 b0 D cA g3 w.toInt64 size.toInt64 hz56) cd_BP_sum w388 w389 rfl hl.1 (Nat.le_of_ble_eq_true rfl) d_Box_fillUp_56 ⟨by decide, by decide⟩ ⟨by decide, by decide⟩ (fun v9 g9 H locs hp hI => hp.elim) (fun q9 E9 ce9 g9 H locs hp hI hce hcv hcl => ?_)
          obtain ⟨hE9, hg9, -⟩ := hp
          rw [hg9] at hI
          rw [hE9] at hcl
          exact hv_out hout hlocks hI hK hce hcv hcl (⟨rfl, by simp only [fillF, if_neg hbl, if_neg c21, if_pos c41, Option.bind_some, Option.bind_none, jsum_f hz56], fun z z1 => by rw [eg3, hv_up_ne _ _ z1]⟩) (by decide) (by decide)
        refine hv_SNp (As := [.long w.toInt64, .long size.toInt64]) (rest := []) hE hml hK hI (c_BP_sumR l hl0 b0 D cA g3 w.toInt64 size.toInt64 hz56) cd_BP_sum w388 w389 rfl rfl rfl hl.1 (Nat.le_of_ble_eq_true rfl) d_Box_fillUp_56 ⟨by decide, by decide⟩ ⟨by decide, by decide⟩ (fun H locs hI => ?_)
        refine W.eq (g2 := F0 m 59 ls [.int ((w.toInt64 + size.toInt64).toInt32)]) rfl ?_
        refine lv_istore (lv' := [(4, .int ((w.toInt64 + size.toInt64).toInt32)), (3, .int w), (0, .ref bx), (1, .int how), (2, .int size)]) hx hb d_Box_fillUp_59 hl (by decide) rfl (fun ls hl => ?_)
        refine lv_aload_n hx hb d_Box_fillUp_61 rfl (lv_at hl 2 rfl) ?_
        refine hv_get hE k_Box hI 0 (by decide) w329 h4 rfl d_Box_fillUp_62 ?_
        refine lv_if_eq (tgt := 77) hx hb d_Box_fillUp_65 (by decide) (fun c65 => ?_) (fun c65 => ?_)
        · skip
          refine lv_aload_n hx hb d_Box_fillUp_77 rfl (lv_at hl 2 rfl) ?_
          refine lv_iload hx hb d_Box_fillUp_78 (lv_at hl 0 rfl) ?_
          refine hv_put hE k_Box hI 5 (by decide) w339 h4 rfl rfl rfl (Nat.le_of_ble_eq_true rfl) d_Box_fillUp_80 (fun H locs hI => ?_)
          obtain ⟨g5, eg5⟩ : ∃ z : hv_M, z = hv_up g3 bx (.inr (1, [.int (b2i bel), .ref ca, .ref pa, .int dp, .int al, .int ((w.toInt64 + size.toInt64).toInt32), .int h, .int d, .int size, .int od, .int to, .int ov])) := ⟨_, rfl⟩
          have hI : hv_I D CL b0 g5 s.heap H locs := by rw [eg5]; exact hI
          have h6 : g5 bx = some (.inr (1, [.int (b2i bel), .ref ca, .ref pa, .int dp, .int al, .int ((w.toInt64 + size.toInt64).toInt32), .int h, .int d, .int size, .int od, .int to, .int ov])) := by rw [eg5]; exact hv_up_self _ _ _
          exact hv_vret hE hr hlocks hI hK (⟨rfl, size, (w.toInt64 + size.toInt64).toInt32, by simp only [fillF, if_neg hbl, if_neg c21, if_pos c41, Option.bind_some, Option.bind_none, jsum_t hz56], by simp only [eg5, eg3, hv_up_up, if_neg hbl]⟩) (by decide) (by decide) d_Box_fillUp_83
        · skip
          exact absurd c4 c65
    · skip
      refine lv_aload_n hx hb d_Box_fillUp_24 rfl (lv_at hl 1 rfl) ?_
      refine lv_iload_n hx hb d_Box_fillUp_25 rfl (lv_at hl 3 rfl) ?_
      refine lv_i2l (v := size.toInt64) hx hb d_Box_fillUp_26 rfl ?_
      refine lv_iload_n hx hb d_Box_fillUp_27 rfl (lv_at hl 0 rfl) ?_
      refine lv_ineg hx hb d_Box_fillUp_28 ?_
      refine lv_i2l (v := (-w).toInt64) hx hb d_Box_fillUp_29 rfl ?_
      by_cases hz30 : sz (size.toInt64 + ((-w).toInt64)) = true
      rotate_left
      · refine hv_SN (As := [.long size.toInt64, .long ((-w).toInt64)]) (rest := [.ref bx]) hE hml hK hI (c_BP_sumX l hl0 b0 D cA f size.toInt64 ((-w).toInt64) hz30) cd_BP_sum w388 w389 rfl hl.1 (Nat.le_of_ble_eq_true rfl) d_Box_fillUp_30 ⟨by decide, by decide⟩ ⟨by decide, by decide⟩ (fun v9 g9 H locs hp hI => hp.elim) (fun q9 E9 ce9 g9 H locs hp hI hce hcv hcl => ?_)
        obtain ⟨hE9, hg9, -⟩ := hp
        rw [hg9] at hI
        rw [hE9] at hcl
        exact hv_out hout hlocks hI hK hce hcv hcl (⟨rfl, by simp only [fillF, if_neg hbl, if_pos c21, Option.bind_some, Option.bind_none, jsum_f hz30], fun z z1 => rfl⟩) (by decide) (by decide)
      refine hv_SNp (As := [.long size.toInt64, .long ((-w).toInt64)]) (rest := [.ref bx]) hE hml hK hI (c_BP_sumR l hl0 b0 D cA f size.toInt64 ((-w).toInt64) hz30) cd_BP_sum w388 w389 rfl rfl rfl hl.1 (Nat.le_of_ble_eq_true rfl) d_Box_fillUp_30 ⟨by decide, by decide⟩ ⟨by decide, by decide⟩ (fun H locs hI => ?_)
      refine W.eq (g2 := F0 m 33 ls [.int ((size.toInt64 + ((-w).toInt64)).toInt32), .ref bx]) rfl ?_
      refine hv_put hE k_Box hI 8 (by decide) w345 hbx rfl rfl rfl (Nat.le_of_ble_eq_true rfl) d_Box_fillUp_33 (fun H locs hI => ?_)
      obtain ⟨g7, eg7⟩ : ∃ z : hv_M, z = hv_up f bx (.inr (1, [.int (b2i bel), .ref ca, .ref pa, .int dp, .int al, .int w, .int h, .int d, .int ((size.toInt64 + ((-w).toInt64)).toInt32), .int od, .int to, .int ov])) := ⟨_, rfl⟩
      have hI : hv_I D CL b0 g7 s.heap H locs := by rw [eg7]; exact hI
      have h8 : g7 bx = some (.inr (1, [.int (b2i bel), .ref ca, .ref pa, .int dp, .int al, .int w, .int h, .int d, .int ((size.toInt64 + ((-w).toInt64)).toInt32), .int od, .int to, .int ov])) := by rw [eg7]; exact hv_up_self _ _ _
      refine lv_goto (tgt := 49) hx hb d_Box_fillUp_36 (by decide) ?_
      refine lv_iload_n hx hb d_Box_fillUp_49 rfl (lv_at hl 0 rfl) ?_
      refine lv_i2l (v := w.toInt64) hx hb d_Box_fillUp_50 rfl ?_
      refine lv_aload_n hx hb d_Box_fillUp_51 rfl (lv_at hl 1 rfl) ?_
      refine hv_get hE k_Box hI 8 (by decide) w345 h8 rfl d_Box_fillUp_52 ?_
      refine lv_i2l (v := ((size.toInt64 + ((-w).toInt64)).toInt32).toInt64) hx hb d_Box_fillUp_55 rfl ?_
      by_cases hz56 : sz (w.toInt64 + (((size.toInt64 + ((-w).toInt64)).toInt32).toInt64)) = true
      rotate_left
      · refine hv_SN (As := [.long w.toInt64, .long (((size.toInt64 + ((-w).toInt64)).toInt32).toInt64)]) (rest := []) hE hml hK hI (c_BP_sumX l hl0 b0 D cA g7 w.toInt64 (((size.toInt64 + ((-w).toInt64)).toInt32).toInt64) hz56) cd_BP_sum w388 w389 rfl hl.1 (Nat.le_of_ble_eq_true rfl) d_Box_fillUp_56 ⟨by decide, by decide⟩ ⟨by decide, by decide⟩ (fun v9 g9 H locs hp hI => hp.elim) (fun q9 E9 ce9 g9 H locs hp hI hce hcv hcl => ?_)
        obtain ⟨hE9, hg9, -⟩ := hp
        rw [hg9] at hI
        rw [hE9] at hcl
        exact hv_out hout hlocks hI hK hce hcv hcl (⟨rfl, by simp only [fillF, if_neg hbl, if_pos c21, Option.bind_some, Option.bind_none, jsum_t hz30, jsum_f hz56], fun z z1 => by rw [eg7, hv_up_ne _ _ z1]⟩) (by decide) (by decide)
      refine hv_SNp (As := [.long w.toInt64, .long (((size.toInt64 + ((-w).toInt64)).toInt32).toInt64)]) (rest := []) hE hml hK hI (c_BP_sumR l hl0 b0 D cA g7 w.toInt64 (((size.toInt64 + ((-w).toInt64)).toInt32).toInt64) hz56) cd_BP_sum w388 w389 rfl rfl rfl hl.1 (Nat.le_of_ble_eq_true rfl) d_Box_fillUp_56 ⟨by decide, by decide⟩ ⟨by decide, by decide⟩ (fun H locs hI => ?_)
      refine W.eq (g2 := F0 m 59 ls [.int ((w.toInt64 + (((size.toInt64 + ((-w).toInt64)).toInt32).toInt64)).toInt32)]) rfl ?_
      refine lv_istore (lv' := [(4, .int ((w.toInt64 + (((size.toInt64 + ((-w).toInt64)).toInt32).toInt64)).toInt32)), (3, .int w), (0, .ref bx), (1, .int how), (2, .int size)]) hx hb d_Box_fillUp_59 hl (by decide) rfl (fun ls hl => ?_)
      refine lv_aload_n hx hb d_Box_fillUp_61 rfl (lv_at hl 2 rfl) ?_
      refine hv_get hE k_Box hI 0 (by decide) w329 h8 rfl d_Box_fillUp_62 ?_
      refine lv_if_eq (tgt := 77) hx hb d_Box_fillUp_65 (by decide) (fun c65 => ?_) (fun c65 => ?_)
      · skip
        refine lv_aload_n hx hb d_Box_fillUp_77 rfl (lv_at hl 2 rfl) ?_
        refine lv_iload hx hb d_Box_fillUp_78 (lv_at hl 0 rfl) ?_
        refine hv_put hE k_Box hI 5 (by decide) w339 h8 rfl rfl rfl (Nat.le_of_ble_eq_true rfl) d_Box_fillUp_80 (fun H locs hI => ?_)
        obtain ⟨g9, eg9⟩ : ∃ z : hv_M, z = hv_up g7 bx (.inr (1, [.int (b2i bel), .ref ca, .ref pa, .int dp, .int al, .int ((w.toInt64 + (((size.toInt64 + ((-w).toInt64)).toInt32).toInt64)).toInt32), .int h, .int d, .int ((size.toInt64 + ((-w).toInt64)).toInt32), .int od, .int to, .int ov])) := ⟨_, rfl⟩
        have hI : hv_I D CL b0 g9 s.heap H locs := by rw [eg9]; exact hI
        have h10 : g9 bx = some (.inr (1, [.int (b2i bel), .ref ca, .ref pa, .int dp, .int al, .int ((w.toInt64 + (((size.toInt64 + ((-w).toInt64)).toInt32).toInt64)).toInt32), .int h, .int d, .int ((size.toInt64 + ((-w).toInt64)).toInt32), .int od, .int to, .int ov])) := by rw [eg9]; exact hv_up_self _ _ _
        exact hv_vret hE hr hlocks hI hK (⟨rfl, (size.toInt64 + ((-w).toInt64)).toInt32, (w.toInt64 + (((size.toInt64 + ((-w).toInt64)).toInt32).toInt64)).toInt32, by simp only [fillF, if_neg hbl, if_pos c21, Option.bind_some, Option.bind_none, jsum_t hz30, jsum_t hz56], by simp only [eg9, eg7, hv_up_up, if_neg hbl]⟩) (by decide) (by decide) d_Box_fillUp_83
      · skip
        exact absurd c4 c65
  · skip
    have hbl : bel = true := by cases hb9 : bel with | true => rfl | false => exact absurd (by rw [hb9]; rfl) c4
    refine lv_aload_n hx hb d_Box_fillUp_7 rfl (lv_at hl 0 rfl) ?_
    refine hv_get hE k_Box hI 6 (by decide) w341 hbx rfl d_Box_fillUp_8 ?_
    refine lv_goto (tgt := 18) hx hb d_Box_fillUp_11 (by decide) ?_
    refine lv_istore_n (lv' := [(3, .int h), (0, .ref bx), (1, .int how), (2, .int size)]) hx hb d_Box_fillUp_18 rfl hl (by decide) rfl (fun ls hl => ?_)
    refine lv_iload_n hx hb d_Box_fillUp_19 rfl (lv_at hl 2 rfl) ?_
    refine lv_iconst (v := 1) hx hb d_Box_fillUp_20 (by decide) ?_
    refine lv_icmp_ne (tgt := 39) hx hb d_Box_fillUp_21 (by decide) (fun c21 => ?_) (fun c21 => ?_)
    · skip
      refine lv_iload_n hx hb d_Box_fillUp_39 rfl (lv_at hl 2 rfl) ?_
      refine lv_iconst (v := 2) hx hb d_Box_fillUp_40 (by decide) ?_
      refine lv_icmp_ne (tgt := 49) hx hb d_Box_fillUp_41 (by decide) (fun c41 => ?_) (fun c41 => ?_)
      · skip
        refine lv_iload_n hx hb d_Box_fillUp_49 rfl (lv_at hl 0 rfl) ?_
        refine lv_i2l (v := h.toInt64) hx hb d_Box_fillUp_50 rfl ?_
        refine lv_aload_n hx hb d_Box_fillUp_51 rfl (lv_at hl 1 rfl) ?_
        refine hv_get hE k_Box hI 8 (by decide) w345 hbx rfl d_Box_fillUp_52 ?_
        refine lv_i2l (v := (0 : Int32).toInt64) hx hb d_Box_fillUp_55 rfl ?_
        by_cases hz56 : sz (h.toInt64 + ((0 : Int32).toInt64)) = true
        rotate_left
        · refine hv_SN (As := [.long h.toInt64, .long ((0 : Int32).toInt64)]) (rest := []) hE hml hK hI (c_BP_sumX l hl0 b0 D cA f h.toInt64 ((0 : Int32).toInt64) hz56) cd_BP_sum w388 w389 rfl hl.1 (Nat.le_of_ble_eq_true rfl) d_Box_fillUp_56 ⟨by decide, by decide⟩ ⟨by decide, by decide⟩ (fun v9 g9 H locs hp hI => hp.elim) (fun q9 E9 ce9 g9 H locs hp hI hce hcv hcl => ?_)
          obtain ⟨hE9, hg9, -⟩ := hp
          rw [hg9] at hI
          rw [hE9] at hcl
          exact hv_out hout hlocks hI hK hce hcv hcl (⟨rfl, by simp only [fillF, if_pos hbl, if_neg c21, if_neg c41, Option.bind_some, Option.bind_none, jsum_f hz56], fun z z1 => rfl⟩) (by decide) (by decide)
        refine hv_SNp (As := [.long h.toInt64, .long ((0 : Int32).toInt64)]) (rest := []) hE hml hK hI (c_BP_sumR l hl0 b0 D cA f h.toInt64 ((0 : Int32).toInt64) hz56) cd_BP_sum w388 w389 rfl rfl rfl hl.1 (Nat.le_of_ble_eq_true rfl) d_Box_fillUp_56 ⟨by decide, by decide⟩ ⟨by decide, by decide⟩ (fun H locs hI => ?_)
        refine W.eq (g2 := F0 m 59 ls [.int ((h.toInt64 + ((0 : Int32).toInt64)).toInt32)]) rfl ?_
        refine lv_istore (lv' := [(4, .int ((h.toInt64 + ((0 : Int32).toInt64)).toInt32)), (3, .int h), (0, .ref bx), (1, .int how), (2, .int size)]) hx hb d_Box_fillUp_59 hl (by decide) rfl (fun ls hl => ?_)
        refine lv_aload_n hx hb d_Box_fillUp_61 rfl (lv_at hl 2 rfl) ?_
        refine hv_get hE k_Box hI 0 (by decide) w329 hbx rfl d_Box_fillUp_62 ?_
        refine lv_if_eq (tgt := 77) hx hb d_Box_fillUp_65 (by decide) (fun c65 => ?_) (fun c65 => ?_)
        · skip
          exact absurd c65 c4
        · skip
          refine lv_aload_n hx hb d_Box_fillUp_68 rfl (lv_at hl 2 rfl) ?_
          refine lv_iload hx hb d_Box_fillUp_69 (lv_at hl 0 rfl) ?_
          refine hv_put hE k_Box hI 6 (by decide) w341 hbx rfl rfl rfl (Nat.le_of_ble_eq_true rfl) d_Box_fillUp_71 (fun H locs hI => ?_)
          obtain ⟨g11, eg11⟩ : ∃ z : hv_M, z = hv_up f bx (.inr (1, [.int (b2i bel), .ref ca, .ref pa, .int dp, .int al, .int w, .int ((h.toInt64 + ((0 : Int32).toInt64)).toInt32), .int d, .int 0, .int od, .int to, .int ov])) := ⟨_, rfl⟩
          have hI : hv_I D CL b0 g11 s.heap H locs := by rw [eg11]; exact hI
          have h12 : g11 bx = some (.inr (1, [.int (b2i bel), .ref ca, .ref pa, .int dp, .int al, .int w, .int ((h.toInt64 + ((0 : Int32).toInt64)).toInt32), .int d, .int 0, .int od, .int to, .int ov])) := by rw [eg11]; exact hv_up_self _ _ _
          refine lv_goto (tgt := 83) hx hb d_Box_fillUp_74 (by decide) ?_
          exact hv_vret hE hr hlocks hI hK (⟨rfl, 0, (h.toInt64 + ((0 : Int32).toInt64)).toInt32, by simp only [fillF, if_pos hbl, if_neg c21, if_neg c41, Option.bind_some, Option.bind_none, jsum_t hz56], by simp only [eg11, hv_up_up, if_pos hbl]⟩) (by decide) (by decide) d_Box_fillUp_83
      · skip
        refine lv_aload_n hx hb d_Box_fillUp_44 rfl (lv_at hl 1 rfl) ?_
        refine lv_iload_n hx hb d_Box_fillUp_45 rfl (lv_at hl 3 rfl) ?_
        refine hv_put hE k_Box hI 8 (by decide) w345 hbx rfl rfl rfl (Nat.le_of_ble_eq_true rfl) d_Box_fillUp_46 (fun H locs hI => ?_)
        obtain ⟨g13, eg13⟩ : ∃ z : hv_M, z = hv_up f bx (.inr (1, [.int (b2i bel), .ref ca, .ref pa, .int dp, .int al, .int w, .int h, .int d, .int size, .int od, .int to, .int ov])) := ⟨_, rfl⟩
        have hI : hv_I D CL b0 g13 s.heap H locs := by rw [eg13]; exact hI
        have h14 : g13 bx = some (.inr (1, [.int (b2i bel), .ref ca, .ref pa, .int dp, .int al, .int w, .int h, .int d, .int size, .int od, .int to, .int ov])) := by rw [eg13]; exact hv_up_self _ _ _
        refine lv_iload_n hx hb d_Box_fillUp_49 rfl (lv_at hl 0 rfl) ?_
        refine lv_i2l (v := h.toInt64) hx hb d_Box_fillUp_50 rfl ?_
        refine lv_aload_n hx hb d_Box_fillUp_51 rfl (lv_at hl 1 rfl) ?_
        refine hv_get hE k_Box hI 8 (by decide) w345 h14 rfl d_Box_fillUp_52 ?_
        refine lv_i2l (v := size.toInt64) hx hb d_Box_fillUp_55 rfl ?_
        by_cases hz56 : sz (h.toInt64 + size.toInt64) = true
        rotate_left
        · refine hv_SN (As := [.long h.toInt64, .long size.toInt64]) (rest := []) hE hml hK hI (c_BP_sumX l hl0 b0 D cA g13 h.toInt64 size.toInt64 hz56) cd_BP_sum w388 w389 rfl hl.1 (Nat.le_of_ble_eq_true rfl) d_Box_fillUp_56 ⟨by decide, by decide⟩ ⟨by decide, by decide⟩ (fun v9 g9 H locs hp hI => hp.elim) (fun q9 E9 ce9 g9 H locs hp hI hce hcv hcl => ?_)
          obtain ⟨hE9, hg9, -⟩ := hp
          rw [hg9] at hI
          rw [hE9] at hcl
          exact hv_out hout hlocks hI hK hce hcv hcl (⟨rfl, by simp only [fillF, if_pos hbl, if_neg c21, if_pos c41, Option.bind_some, Option.bind_none, jsum_f hz56], fun z z1 => by rw [eg13, hv_up_ne _ _ z1]⟩) (by decide) (by decide)
        refine hv_SNp (As := [.long h.toInt64, .long size.toInt64]) (rest := []) hE hml hK hI (c_BP_sumR l hl0 b0 D cA g13 h.toInt64 size.toInt64 hz56) cd_BP_sum w388 w389 rfl rfl rfl hl.1 (Nat.le_of_ble_eq_true rfl) d_Box_fillUp_56 ⟨by decide, by decide⟩ ⟨by decide, by decide⟩ (fun H locs hI => ?_)
        refine W.eq (g2 := F0 m 59 ls [.int ((h.toInt64 + size.toInt64).toInt32)]) rfl ?_
        refine lv_istore (lv' := [(4, .int ((h.toInt64 + size.toInt64).toInt32)), (3, .int h), (0, .ref bx), (1, .int how), (2, .int size)]) hx hb d_Box_fillUp_59 hl (by decide) rfl (fun ls hl => ?_)
        refine lv_aload_n hx hb d_Box_fillUp_61 rfl (lv_at hl 2 rfl) ?_
        refine hv_get hE k_Box hI 0 (by decide) w329 h14 rfl d_Box_fillUp_62 ?_
        refine lv_if_eq (tgt := 77) hx hb d_Box_fillUp_65 (by decide) (fun c65 => ?_) (fun c65 => ?_)
        · skip
          exact absurd c65 c4
        · skip
          refine lv_aload_n hx hb d_Box_fillUp_68 rfl (lv_at hl 2 rfl) ?_
          refine lv_iload hx hb d_Box_fillUp_69 (lv_at hl 0 rfl) ?_
          refine hv_put hE k_Box hI 6 (by decide) w341 h14 rfl rfl rfl (Nat.le_of_ble_eq_true rfl) d_Box_fillUp_71 (fun H locs hI => ?_)
          obtain ⟨g15, eg15⟩ : ∃ z : hv_M, z = hv_up g13 bx (.inr (1, [.int (b2i bel), .ref ca, .ref pa, .int dp, .int al, .int w, .int ((h.toInt64 + size.toInt64).toInt32), .int d, .int size, .int od, .int to, .int ov])) := ⟨_, rfl⟩
          have hI : hv_I D CL b0 g15 s.heap H locs := by rw [eg15]; exact hI
          have h16 : g15 bx = some (.inr (1, [.int (b2i bel), .ref ca, .ref pa, .int dp, .int al, .int w, .int ((h.toInt64 + size.toInt64).toInt32), .int d, .int size, .int od, .int to, .int ov])) := by rw [eg15]; exact hv_up_self _ _ _
          refine lv_goto (tgt := 83) hx hb d_Box_fillUp_74 (by decide) ?_
          exact hv_vret hE hr hlocks hI hK (⟨rfl, size, (h.toInt64 + size.toInt64).toInt32, by simp only [fillF, if_pos hbl, if_neg c21, if_pos c41, Option.bind_some, Option.bind_none, jsum_t hz56], by simp only [eg15, eg13, hv_up_up, if_pos hbl]⟩) (by decide) (by decide) d_Box_fillUp_83
    · skip
      refine lv_aload_n hx hb d_Box_fillUp_24 rfl (lv_at hl 1 rfl) ?_
      refine lv_iload_n hx hb d_Box_fillUp_25 rfl (lv_at hl 3 rfl) ?_
      refine lv_i2l (v := size.toInt64) hx hb d_Box_fillUp_26 rfl ?_
      refine lv_iload_n hx hb d_Box_fillUp_27 rfl (lv_at hl 0 rfl) ?_
      refine lv_ineg hx hb d_Box_fillUp_28 ?_
      refine lv_i2l (v := (-h).toInt64) hx hb d_Box_fillUp_29 rfl ?_
      by_cases hz30 : sz (size.toInt64 + ((-h).toInt64)) = true
      rotate_left
      · refine hv_SN (As := [.long size.toInt64, .long ((-h).toInt64)]) (rest := [.ref bx]) hE hml hK hI (c_BP_sumX l hl0 b0 D cA f size.toInt64 ((-h).toInt64) hz30) cd_BP_sum w388 w389 rfl hl.1 (Nat.le_of_ble_eq_true rfl) d_Box_fillUp_30 ⟨by decide, by decide⟩ ⟨by decide, by decide⟩ (fun v9 g9 H locs hp hI => hp.elim) (fun q9 E9 ce9 g9 H locs hp hI hce hcv hcl => ?_)
        obtain ⟨hE9, hg9, -⟩ := hp
        rw [hg9] at hI
        rw [hE9] at hcl
        exact hv_out hout hlocks hI hK hce hcv hcl (⟨rfl, by simp only [fillF, if_pos hbl, if_pos c21, Option.bind_some, Option.bind_none, jsum_f hz30], fun z z1 => rfl⟩) (by decide) (by decide)
      refine hv_SNp (As := [.long size.toInt64, .long ((-h).toInt64)]) (rest := [.ref bx]) hE hml hK hI (c_BP_sumR l hl0 b0 D cA f size.toInt64 ((-h).toInt64) hz30) cd_BP_sum w388 w389 rfl rfl rfl hl.1 (Nat.le_of_ble_eq_true rfl) d_Box_fillUp_30 ⟨by decide, by decide⟩ ⟨by decide, by decide⟩ (fun H locs hI => ?_)
      refine W.eq (g2 := F0 m 33 ls [.int ((size.toInt64 + ((-h).toInt64)).toInt32), .ref bx]) rfl ?_
      refine hv_put hE k_Box hI 8 (by decide) w345 hbx rfl rfl rfl (Nat.le_of_ble_eq_true rfl) d_Box_fillUp_33 (fun H locs hI => ?_)
      obtain ⟨g17, eg17⟩ : ∃ z : hv_M, z = hv_up f bx (.inr (1, [.int (b2i bel), .ref ca, .ref pa, .int dp, .int al, .int w, .int h, .int d, .int ((size.toInt64 + ((-h).toInt64)).toInt32), .int od, .int to, .int ov])) := ⟨_, rfl⟩
      have hI : hv_I D CL b0 g17 s.heap H locs := by rw [eg17]; exact hI
      have h18 : g17 bx = some (.inr (1, [.int (b2i bel), .ref ca, .ref pa, .int dp, .int al, .int w, .int h, .int d, .int ((size.toInt64 + ((-h).toInt64)).toInt32), .int od, .int to, .int ov])) := by rw [eg17]; exact hv_up_self _ _ _
      refine lv_goto (tgt := 49) hx hb d_Box_fillUp_36 (by decide) ?_
      refine lv_iload_n hx hb d_Box_fillUp_49 rfl (lv_at hl 0 rfl) ?_
      refine lv_i2l (v := h.toInt64) hx hb d_Box_fillUp_50 rfl ?_
      refine lv_aload_n hx hb d_Box_fillUp_51 rfl (lv_at hl 1 rfl) ?_
      refine hv_get hE k_Box hI 8 (by decide) w345 h18 rfl d_Box_fillUp_52 ?_
      refine lv_i2l (v := ((size.toInt64 + ((-h).toInt64)).toInt32).toInt64) hx hb d_Box_fillUp_55 rfl ?_
      by_cases hz56 : sz (h.toInt64 + (((size.toInt64 + ((-h).toInt64)).toInt32).toInt64)) = true
      rotate_left
      · refine hv_SN (As := [.long h.toInt64, .long (((size.toInt64 + ((-h).toInt64)).toInt32).toInt64)]) (rest := []) hE hml hK hI (c_BP_sumX l hl0 b0 D cA g17 h.toInt64 (((size.toInt64 + ((-h).toInt64)).toInt32).toInt64) hz56) cd_BP_sum w388 w389 rfl hl.1 (Nat.le_of_ble_eq_true rfl) d_Box_fillUp_56 ⟨by decide, by decide⟩ ⟨by decide, by decide⟩ (fun v9 g9 H locs hp hI => hp.elim) (fun q9 E9 ce9 g9 H locs hp hI hce hcv hcl => ?_)
        obtain ⟨hE9, hg9, -⟩ := hp
        rw [hg9] at hI
        rw [hE9] at hcl
        exact hv_out hout hlocks hI hK hce hcv hcl (⟨rfl, by simp only [fillF, if_pos hbl, if_pos c21, Option.bind_some, Option.bind_none, jsum_t hz30, jsum_f hz56], fun z z1 => by rw [eg17, hv_up_ne _ _ z1]⟩) (by decide) (by decide)
      refine hv_SNp (As := [.long h.toInt64, .long (((size.toInt64 + ((-h).toInt64)).toInt32).toInt64)]) (rest := []) hE hml hK hI (c_BP_sumR l hl0 b0 D cA g17 h.toInt64 (((size.toInt64 + ((-h).toInt64)).toInt32).toInt64) hz56) cd_BP_sum w388 w389 rfl rfl rfl hl.1 (Nat.le_of_ble_eq_true rfl) d_Box_fillUp_56 ⟨by decide, by decide⟩ ⟨by decide, by decide⟩ (fun H locs hI => ?_)
      refine W.eq (g2 := F0 m 59 ls [.int ((h.toInt64 + (((size.toInt64 + ((-h).toInt64)).toInt32).toInt64)).toInt32)]) rfl ?_
      refine lv_istore (lv' := [(4, .int ((h.toInt64 + (((size.toInt64 + ((-h).toInt64)).toInt32).toInt64)).toInt32)), (3, .int h), (0, .ref bx), (1, .int how), (2, .int size)]) hx hb d_Box_fillUp_59 hl (by decide) rfl (fun ls hl => ?_)
      refine lv_aload_n hx hb d_Box_fillUp_61 rfl (lv_at hl 2 rfl) ?_
      refine hv_get hE k_Box hI 0 (by decide) w329 h18 rfl d_Box_fillUp_62 ?_
      refine lv_if_eq (tgt := 77) hx hb d_Box_fillUp_65 (by decide) (fun c65 => ?_) (fun c65 => ?_)
      · skip
        exact absurd c65 c4
      · skip
        refine lv_aload_n hx hb d_Box_fillUp_68 rfl (lv_at hl 2 rfl) ?_
        refine lv_iload hx hb d_Box_fillUp_69 (lv_at hl 0 rfl) ?_
        refine hv_put hE k_Box hI 6 (by decide) w341 h18 rfl rfl rfl (Nat.le_of_ble_eq_true rfl) d_Box_fillUp_71 (fun H locs hI => ?_)
        obtain ⟨g19, eg19⟩ : ∃ z : hv_M, z = hv_up g17 bx (.inr (1, [.int (b2i bel), .ref ca, .ref pa, .int dp, .int al, .int w, .int ((h.toInt64 + (((size.toInt64 + ((-h).toInt64)).toInt32).toInt64)).toInt32), .int d, .int ((size.toInt64 + ((-h).toInt64)).toInt32), .int od, .int to, .int ov])) := ⟨_, rfl⟩
        have hI : hv_I D CL b0 g19 s.heap H locs := by rw [eg19]; exact hI
        have h20 : g19 bx = some (.inr (1, [.int (b2i bel), .ref ca, .ref pa, .int dp, .int al, .int w, .int ((h.toInt64 + (((size.toInt64 + ((-h).toInt64)).toInt32).toInt64)).toInt32), .int d, .int ((size.toInt64 + ((-h).toInt64)).toInt32), .int od, .int to, .int ov])) := by rw [eg19]; exact hv_up_self _ _ _
        refine lv_goto (tgt := 83) hx hb d_Box_fillUp_74 (by decide) ?_
        exact hv_vret hE hr hlocks hI hK (⟨rfl, (size.toInt64 + ((-h).toInt64)).toInt32, (h.toInt64 + (((size.toInt64 + ((-h).toInt64)).toInt32).toInt64)).toInt32, by simp only [fillF, if_pos hbl, if_pos c21, Option.bind_some, Option.bind_none, jsum_t hz30, jsum_t hz56], by simp only [eg19, eg17, hv_up_up, if_pos hbl]⟩) (by decide) (by decide) d_Box_fillUp_83
end
section
set_option maxHeartbeats 4000000 in
set_option maxRecDepth 100000 in
theorem c_Box_gives (l : Launch) (hl0 : l.stackTraces = false) (b0 : Nat) (D : va_G) (cA : Nat → ClassId) (f : hv_M) (bx ca pa n : Nat) (bel dp al w h d ex od to ov : Int32) (sh : Bool) (gc : Nat → Option Nat) (iv : Nat → It) (hbx : f bx = some (.inr (1, [.int bel, .ref ca, .ref pa, .int dp, .int al, .int w, .int h, .int d, .int ex, .int od, .int to, .int ov]))) (hca : f ca = some (.inl (cA 3, n, .inr (.inr (.inr (.inr gc)))))) (hit : itsAt f n gc iv) (hor : ordsIn n iv) (hn : n ≤ 100) : hv_Met l y_Box_gives [Cond.code y_Box_gives b_Box_gives 6 (some (FieldType.array FieldType.int))] (RM 3 2 10) b0 (Fa D cA) D CL [.ref bx, .int (b2i sh)] f (fun v g => ∃ (qs : Nat) (gs : Nat → Int32), v = some (.ref qs) ∧ f qs = none ∧ givesF sh iv n 0 (fun _ => 0) = some gs ∧ g = hv_up f qs (.inl (cA 0, 4, .inl gs))) (fun E g => E = "java/lang/IllegalStateException" ∧ givesF sh iv n 0 (fun _ => 0) = none ∧ ∀ z x, f z = some x → g z = some x) := by
  refine hv_Met.of (own := "BoxPacker$Box") (by decide) rfl (Nat.le_of_ble_eq_true rfl) ?_
  intro p e s m below meth c hE hml hout hr hlocks hname hK hI ls hl
  have hl : lv_has ls 6 [(0, .ref bx), (1, .int (b2i sh))] := hl
  obtain ⟨hx, hb, hown, hts, hVK⟩ := id hE
  refine lv_iconst (v := 4) hx hb d_Box_gives_0 (by decide) ?_
  refine hv_newI hE hI 0 rfl w378 (n := 4) (by decide) (by decide) (by decide) (by decide) (by decide) d_Box_gives_1 (fun q1 H hnq1 hI => ?_)
  obtain ⟨g2, eg2⟩ : ∃ z : hv_M, z = hv_up f q1 (.inl (cA 0, 4, .inl (fun _ => 0))) := ⟨_, rfl⟩
  have hI : hv_I D CL b0 g2 s.heap H [] := by rw [eg2]; exact hI
  have h3 : g2 q1 = some (.inl (cA 0, 4, .inl (fun _ => 0))) := by rw [eg2]; exact hv_up_self _ _ _
  refine lv_astore_n (lv' := [(2, .ref q1), (0, .ref bx), (1, .int (b2i sh))]) hx hb d_Box_gives_3 rfl hl (by decide) rfl (fun ls hl => ?_)
  refine lv_iconst (v := 0) hx hb d_Box_gives_4 (by decide) ?_
  refine lv_istore_n (lv' := [(3, .int 0), (2, .ref q1), (0, .ref bx), (1, .int (b2i sh))]) hx hb d_Box_gives_5 rfl hl (by decide) rfl (fun ls hl => ?_)
  have loop : ∀ (k i : Nat) (gs : Nat → Int32) (g : hv_M) (H : Heap) (locs : List Loc) (ls : Array Slot), i + k = n → g q1 = some (.inl (cA 0, 4, .inl gs)) → (∀ z, z ≠ q1 → g z = f z) → givesF sh iv k i gs = givesF sh iv n 0 (fun _ => 0) → hv_I D CL b0 g s.heap H locs → lv_has ls 6 [(0, .ref bx), (1, .int (b2i sh)), (2, .ref q1), (3, .int (nI i))] → W p l e (RM 3 2 10) s m ([.ref bx, .int (b2i sh)] : List Value).toArray below meth c H locs (0 + 1) (0 + 4) (xh_MQ below (hv_Q b0 (Fa D cA) D CL (fun v g => ∃ (qs : Nat) (gs : Nat → Int32), v = some (.ref qs) ∧ f qs = none ∧ givesF sh iv n 0 (fun _ => 0) = some gs ∧ g = hv_up f qs (.inl (cA 0, 4, .inl gs))) (fun E g => E = "java/lang/IllegalStateException" ∧ givesF sh iv n 0 (fun _ => 0) = none ∧ ∀ z x, f z = some x → g z = some x)) s 2 10 (fun q => b0 ≤ q)) (F0 m 6 ls []) := by
    intro k
    induction k with
    | zero =>
      intro i gs g H locs ls hik hgs hfo heq hI hl
      have hgb : g bx = some (.inr (1, [.int bel, .ref ca, .ref pa, .int dp, .int al, .int w, .int h, .int d, .int ex, .int od, .int to, .int ov])) := by rw [hfo bx (hv_nn hbx hnq1)]; exact hbx
      have hgc : g ca = some (.inl (cA 3, n, .inr (.inr (.inr (.inr gc))))) := by rw [hfo ca (hv_nn hca hnq1)]; exact hca
      refine lv_iload_n hx hb d_Box_gives_6 rfl (lv_at hl 3 rfl) ?_
      refine lv_aload_n hx hb d_Box_gives_7 rfl (lv_at hl 0 rfl) ?_
      refine hv_get hE k_Box hI 1 (by decide) w331 hgb rfl d_Box_gives_8 ?_
      refine hv_alen hE hI 3 hgc rfl (z := nI n) rfl d_Box_gives_11 ?_
      refine lv_icmp_ge (tgt := 71) hx hb d_Box_gives_12 (by decide) (fun c12 => ?_) (fun c12 => ?_)
      · skip
        refine lv_aload_n hx hb d_Box_gives_71 rfl (lv_at hl 2 rfl) ?_
        exact hv_aret hE hr (Or.inr ⟨_, rfl⟩) hlocks hI hK (v := .ref q1) (Or.inr ⟨_, rfl⟩) (⟨q1, gs, rfl, hnq1, heq.symm, by funext z; by_cases hz : z = q1; (rw [hz, hv_up_self]; exact hgs); (rw [hv_up_ne _ _ hz]; exact hfo z hz)⟩) (by decide) (by decide) d_Box_gives_72
      · skip
        exact absurd (nI_le (by omega) (by omega)) c12
    | succ k ih =>
      intro i gs g H locs ls hik hgs hfo heq hI hl
      have hgb : g bx = some (.inr (1, [.int bel, .ref ca, .ref pa, .int dp, .int al, .int w, .int h, .int d, .int ex, .int od, .int to, .int ov])) := by rw [hfo bx (hv_nn hbx hnq1)]; exact hbx
      have hgc : g ca = some (.inl (cA 3, n, .inr (.inr (.inr (.inr gc))))) := by rw [hfo ca (hv_nn hca hnq1)]; exact hca
      obtain ⟨q, hq1, hq2⟩ := hit i (by omega)
      rcases hiv : iv i with ⟨t, iw, ih9, id9, inn, z9⟩ | ⟨iw, a9, b9, c9, e9⟩
      · rw [hiv] at hq2
        have hgq : g q = some (.inr (2, [.int t, .int iw, .int ih9, .int id9, va_rf inn, .int z9])) := by rw [hfo q (hv_nn hq2 hnq1)]; exact hq2
        refine lv_iload_n hx hb d_Box_gives_6 rfl (lv_at hl 3 rfl) ?_
        refine lv_aload_n hx hb d_Box_gives_7 rfl (lv_at hl 0 rfl) ?_
        refine hv_get hE k_Box hI 1 (by decide) w331 hgb rfl d_Box_gives_8 ?_
        refine hv_alen hE hI 3 hgc rfl (z := nI n) rfl d_Box_gives_11 ?_
        refine lv_icmp_ge (tgt := 71) hx hb d_Box_gives_12 (by decide) (fun c12 => ?_) (fun c12 => ?_)
        · skip
          exact absurd c12 (nI_ge (by omega) (by omega))
        · skip
          refine lv_aload_n hx hb d_Box_gives_15 rfl (lv_at hl 0 rfl) ?_
          refine hv_get hE k_Box hI 1 (by decide) w331 hgb rfl d_Box_gives_16 ?_
          refine lv_iload_n hx hb d_Box_gives_19 rfl (lv_at hl 3 rfl) ?_
          refine hv_aald hE hI 3 hgc rfl (pk_in i n (by omega) rfl (by omega)) d_Box_gives_20 ?_
          rw [nI_cl (by omega)]
          rw [hq1]
          refine W.eq (g2 := F0 m 21 ls [.ref q]) rfl ?_
          refine lv_astore (lv' := [(5, .ref q), (0, .ref bx), (1, .int (b2i sh)), (2, .ref q1), (3, .int (nI i))]) hx hb d_Box_gives_21 hl (by decide) rfl (fun ls hl => ?_)
          refine lv_aload hx hb d_Box_gives_23 (lv_at hl 0 rfl) ?_
          refine hv_instN hE hI hK hgq rfl (nm := "BoxPacker$Space") (by decide) w413 d_Box_gives_25 ?_
          refine lv_if_eq (tgt := 65) hx hb d_Box_gives_28 (by decide) (fun c28 => ?_) (fun c28 => ?_)
          · skip
            obtain ⟨v4, ev4⟩ : ∃ y : Int32, y = (nI i) + 1 := ⟨_, rfl⟩
            refine lv_iinc (v := v4) (lv' := [(3, .int v4), (5, .ref q), (0, .ref bx), (1, .int (b2i sh)), (2, .ref q1)]) hx hb d_Box_gives_65 hl (k := 4) rfl (by rw [ev4]; rfl) (by decide) rfl (fun ls hl => ?_)
            refine lv_goto (tgt := 6) hx hb d_Box_gives_68 (by decide) ?_
            exact ih (i + 1) _ _ _ _ ls (by omega) hgs (fun z z1 => by exact hfo z z1) (by rw [← heq]; simp only [givesF, hiv, Option.bind_some, Option.bind_none]) hI (by rw [← nI_1, ← ev4]; exact lv_sub hl [2, 3, 4, 0] rfl)
          · skip
            exact absurd rfl c28
      · rw [hiv] at hq2
        have hgq : g q = some (.inr (3, [.int iw, .int a9, .int b9, .int c9, .int e9])) := by rw [hfo q (hv_nn hq2 hnq1)]; exact hq2
        refine lv_iload_n hx hb d_Box_gives_6 rfl (lv_at hl 3 rfl) ?_
        refine lv_aload_n hx hb d_Box_gives_7 rfl (lv_at hl 0 rfl) ?_
        refine hv_get hE k_Box hI 1 (by decide) w331 hgb rfl d_Box_gives_8 ?_
        refine hv_alen hE hI 3 hgc rfl (z := nI n) rfl d_Box_gives_11 ?_
        refine lv_icmp_ge (tgt := 71) hx hb d_Box_gives_12 (by decide) (fun c12 => ?_) (fun c12 => ?_)
        · skip
          exact absurd c12 (nI_ge (by omega) (by omega))
        · skip
          refine lv_aload_n hx hb d_Box_gives_15 rfl (lv_at hl 0 rfl) ?_
          refine hv_get hE k_Box hI 1 (by decide) w331 hgb rfl d_Box_gives_16 ?_
          refine lv_iload_n hx hb d_Box_gives_19 rfl (lv_at hl 3 rfl) ?_
          refine hv_aald hE hI 3 hgc rfl (pk_in i n (by omega) rfl (by omega)) d_Box_gives_20 ?_
          rw [nI_cl (by omega)]
          rw [hq1]
          refine W.eq (g2 := F0 m 21 ls [.ref q]) rfl ?_
          refine lv_astore (lv' := [(5, .ref q), (0, .ref bx), (1, .int (b2i sh)), (2, .ref q1), (3, .int (nI i))]) hx hb d_Box_gives_21 hl (by decide) rfl (fun ls hl => ?_)
          refine lv_aload hx hb d_Box_gives_23 (lv_at hl 0 rfl) ?_
          refine hv_instS hE hI hgq rfl w413 d_Box_gives_25 ?_
          refine lv_if_eq (tgt := 65) hx hb d_Box_gives_28 (by decide) (fun c28 => ?_) (fun c28 => ?_)
          · skip
            exact absurd c28 (by decide)
          · skip
            refine lv_aload hx hb d_Box_gives_31 (lv_at hl 0 rfl) ?_
            refine hv_castS hE hI hgq rfl w413 d_Box_gives_33 ?_
            refine lv_astore (lv' := [(4, .ref q), (5, .ref q), (0, .ref bx), (1, .int (b2i sh)), (2, .ref q1), (3, .int (nI i))]) hx hb d_Box_gives_36 hl (by decide) rfl (fun ls hl => ?_)
            refine lv_aload hx hb d_Box_gives_38 (lv_at hl 0 rfl) ?_
            refine lv_iload_n hx hb d_Box_gives_40 rfl (lv_at hl 3 rfl) ?_
            refine hv_VNp (As := [.int (b2i sh)]) (rest := []) hE hml hK hI (c_Space_giveOrder l hl0 b0 D cA g q iw a9 b9 c9 e9 sh hgq) cd_Space_giveOrder w422 w424 ws8 hgq rfl rfl rfl rfl hl.1 (Nat.le_of_ble_eq_true rfl) d_Box_gives_41 ⟨by decide, by decide⟩ ⟨by decide, by decide⟩ (fun H locs hI => ?_)
            refine W.eq (g2 := F0 m 44 ls [.int (gvO sh b9 e9)]) rfl ?_
            refine lv_istore (lv' := [(5, .int (gvO sh b9 e9)), (4, .ref q), (0, .ref bx), (1, .int (b2i sh)), (2, .ref q1), (3, .int (nI i))]) hx hb d_Box_gives_44 hl (by decide) rfl (fun ls hl => ?_)
            refine lv_aload_n hx hb d_Box_gives_46 rfl (lv_at hl 4 rfl) ?_
            refine lv_iload hx hb d_Box_gives_47 (lv_at hl 0 rfl) ?_
            refine lv_aload_n hx hb d_Box_gives_49 rfl (lv_at hl 4 rfl) ?_
            refine lv_iload hx hb d_Box_gives_50 (lv_at hl 0 rfl) ?_
            refine hv_iald hE hI 0 hgs rfl (gvO_in hor (by omega) hiv sh) d_Box_gives_52 ?_
            refine lv_i2l (v := (gs (gvO sh b9 e9).toNatClampNeg).toInt64) hx hb d_Box_gives_53 rfl ?_
            refine lv_aload hx hb d_Box_gives_54 (lv_at hl 1 rfl) ?_
            refine lv_iload_n hx hb d_Box_gives_56 rfl (lv_at hl 3 rfl) ?_
            refine hv_VNp (As := [.int (b2i sh)]) (rest := [.long ((gs (gvO sh b9 e9).toNatClampNeg).toInt64), .int (gvO sh b9 e9), .ref q1]) hE hml hK hI (c_Space_give l hl0 b0 D cA g q iw a9 b9 c9 e9 sh hgq) cd_Space_give w426 w428 ws9 hgq rfl rfl rfl rfl hl.1 (Nat.le_of_ble_eq_true rfl) d_Box_gives_57 ⟨by decide, by decide⟩ ⟨by decide, by decide⟩ (fun H locs hI => ?_)
            refine W.eq (g2 := F0 m 60 ls [.int (gvA sh a9 c9), .long ((gs (gvO sh b9 e9).toNatClampNeg).toInt64), .int (gvO sh b9 e9), .ref q1]) rfl ?_
            refine lv_i2l (v := (gvA sh a9 c9).toInt64) hx hb d_Box_gives_60 rfl ?_
            by_cases hz61 : sz (((gs (gvO sh b9 e9).toNatClampNeg).toInt64) + ((gvA sh a9 c9).toInt64)) = true
            rotate_left
            · refine hv_SN (As := [.long ((gs (gvO sh b9 e9).toNatClampNeg).toInt64), .long ((gvA sh a9 c9).toInt64)]) (rest := [.int (gvO sh b9 e9), .ref q1]) hE hml hK hI (c_BP_sumX l hl0 b0 D cA g ((gs (gvO sh b9 e9).toNatClampNeg).toInt64) ((gvA sh a9 c9).toInt64) hz61) cd_BP_sum w388 w389 rfl hl.1 (Nat.le_of_ble_eq_true rfl) d_Box_gives_61 ⟨by decide, by decide⟩ ⟨by decide, by decide⟩ (fun v9 g9 H locs hp hI => hp.elim) (fun q9 E9 ce9 g9 H locs hp hI hce hcv hcl => ?_)
              obtain ⟨hE9, hg9, -⟩ := hp
              rw [hg9] at hI
              rw [hE9] at hcl
              exact hv_out hout hlocks hI hK hce hcv hcl (⟨rfl, by rw [← heq]; simp only [givesF, hiv, Option.bind_some, Option.bind_none, jsum_f hz61], fun z x hz => by have z1 : z ≠ q1 := hv_nn hz hnq1; rw [show g z = f z from by exact hfo z z1]; exact hz⟩) (by decide) (by decide)
            refine hv_SNp (As := [.long ((gs (gvO sh b9 e9).toNatClampNeg).toInt64), .long ((gvA sh a9 c9).toInt64)]) (rest := [.int (gvO sh b9 e9), .ref q1]) hE hml hK hI (c_BP_sumR l hl0 b0 D cA g ((gs (gvO sh b9 e9).toNatClampNeg).toInt64) ((gvA sh a9 c9).toInt64) hz61) cd_BP_sum w388 w389 rfl rfl rfl hl.1 (Nat.le_of_ble_eq_true rfl) d_Box_gives_61 ⟨by decide, by decide⟩ ⟨by decide, by decide⟩ (fun H locs hI => ?_)
            refine W.eq (g2 := F0 m 64 ls [.int ((((gs (gvO sh b9 e9).toNatClampNeg).toInt64) + ((gvA sh a9 c9).toInt64)).toInt32), .int (gvO sh b9 e9), .ref q1]) rfl ?_
            refine hv_iast hE hI 0 hgs rfl (gvO_in hor (by omega) hiv sh) d_Box_gives_64 (fun H locs hI => ?_)
            obtain ⟨g5, eg5⟩ : ∃ z : hv_M, z = hv_up g q1 (.inl (cA 0, 4, .inl (upd gs (gvO sh b9 e9).toNatClampNeg ((((gs (gvO sh b9 e9).toNatClampNeg).toInt64) + ((gvA sh a9 c9).toInt64)).toInt32)))) := ⟨_, rfl⟩
            have hI : hv_I D CL b0 g5 s.heap H locs := by rw [eg5]; exact hI
            have h6 : g5 bx = some (.inr (1, [.int bel, .ref ca, .ref pa, .int dp, .int al, .int w, .int h, .int d, .int ex, .int od, .int to, .int ov])) := by rw [eg5]; rw [hv_up_ne _ _ (hv_ne hgb hgs (by simp))]; exact hgb
            have h7 : g5 q1 = some (.inl (cA 0, 4, .inl (upd gs (gvO sh b9 e9).toNatClampNeg ((((gs (gvO sh b9 e9).toNatClampNeg).toInt64) + ((gvA sh a9 c9).toInt64)).toInt32)))) := by rw [eg5]; exact hv_up_self _ _ _
            have h8 : g5 ca = some (.inl (cA 3, n, .inr (.inr (.inr (.inr gc))))) := by rw [eg5]; rw [hv_up_ne _ _ (hv_ne hgc hgs (by simp))]; exact hgc
            have h9 : g5 q = some (.inr (3, [.int iw, .int a9, .int b9, .int c9, .int e9])) := by rw [eg5]; rw [hv_up_ne _ _ (hv_ne hgq hgs (by simp))]; exact hgq
            obtain ⟨v10, ev10⟩ : ∃ y : Int32, y = (nI i) + 1 := ⟨_, rfl⟩
            refine lv_iinc (v := v10) (lv' := [(3, .int v10), (5, .int (gvO sh b9 e9)), (4, .ref q), (0, .ref bx), (1, .int (b2i sh)), (2, .ref q1)]) hx hb d_Box_gives_65 hl (k := 5) rfl (by rw [ev10]; rfl) (by decide) rfl (fun ls hl => ?_)
            refine lv_goto (tgt := 6) hx hb d_Box_gives_68 (by decide) ?_
            exact ih (i + 1) _ _ _ _ ls (by omega) h7 (fun z z1 => by rw [eg5, hv_up_ne _ _ z1]; exact hfo z z1) (by rw [← heq]; simp only [givesF, hiv, Option.bind_some, Option.bind_none, jsum_t hz61]) hI (by rw [← nI_1, ← ev10]; exact lv_sub hl [3, 4, 5, 0] rfl)
  exact loop n 0 (fun _ => 0) _ _ _ ls (by omega) h3 (fun z z1 => by rw [eg2, hv_up_ne _ _ z1]) rfl hI (lv_sub hl [2, 3, 1, 0] rfl)

set_option maxHeartbeats 4000000 in
set_option maxRecDepth 100000 in
theorem c_Box_findTotal (l : Launch) (hl0 : l.stackTraces = false) (b0 : Nat) (D : va_G) (cA : Nat → ClassId) (f : hv_M) (bx ca pa qa : Nat) (bel dp al w h d ex od to ov : Int32) (gs : Nat → Int32) (hbx : f bx = some (.inr (1, [.int bel, .ref ca, .ref pa, .int dp, .int al, .int w, .int h, .int d, .int ex, .int od, .int to, .int ov]))) (hqa : f qa = some (.inl (cA 0, 4, .inl gs))) : hv_Met l y_Box_findTotal [Cond.code y_Box_findTotal b_Box_findTotal 3 none] (RM 0 0 0) b0 (Fa D cA) D CL [.ref bx, .ref qa] f (fun v g => v = none ∧ ∃ o t : Int32, findF gs 4 0 od to = (o, t) ∧ g = hv_up f bx (.inr (1, [.int bel, .ref ca, .ref pa, .int dp, .int al, .int w, .int h, .int d, .int ex, .int o, .int t, .int ov]))) (NX) := by
  refine hv_Met.of (own := "BoxPacker$Box") (by decide) rfl (Nat.le_of_ble_eq_true rfl) ?_
  intro p e s m below meth c hE hml hout hr hlocks hname hK hI ls hl
  have hl : lv_has ls 3 [(0, .ref bx), (1, .ref qa)] := hl
  obtain ⟨hx, hb, hown, hts, hVK⟩ := id hE
  refine lv_iconst (v := 0) hx hb d_Box_findTotal_0 (by decide) ?_
  refine lv_istore_n (lv' := [(2, .int 0), (0, .ref bx), (1, .ref qa)]) hx hb d_Box_findTotal_1 rfl hl (by decide) rfl (fun ls hl => ?_)
  have loop : ∀ (k i : Nat) (o t : Int32) (g : hv_M) (H : Heap) (locs : List Loc) (ls : Array Slot), i + k = 4 → g bx = some (.inr (1, [.int bel, .ref ca, .ref pa, .int dp, .int al, .int w, .int h, .int d, .int ex, .int o, .int t, .int ov])) → (∀ z, z ≠ bx → g z = f z) → findF gs k i o t = findF gs 4 0 od to → hv_I D CL b0 g s.heap H locs → lv_has ls 3 [(0, .ref bx), (1, .ref qa), (2, .int (nI i))] → W p l e (RM 0 0 0) s m ([.ref bx, .ref qa] : List Value).toArray below meth c H locs (0) (0) (xh_MQ below (hv_Q b0 (Fa D cA) D CL (fun v g => v = none ∧ ∃ o t : Int32, findF gs 4 0 od to = (o, t) ∧ g = hv_up f bx (.inr (1, [.int bel, .ref ca, .ref pa, .int dp, .int al, .int w, .int h, .int d, .int ex, .int o, .int t, .int ov]))) (NX)) s 0 0 (fun q => b0 ≤ q)) (F0 m 2 ls []) := by
    intro k
    induction k with
    | zero =>
      intro i o t g H locs ls hik hgb hfo heq hI hl
      have hga : g qa = some (.inl (cA 0, 4, .inl gs)) := by rw [hfo qa (hv_ne hqa hbx (by simp))]; exact hqa
      refine lv_iload_n hx hb d_Box_findTotal_2 rfl (lv_at hl 2 rfl) ?_
      refine lv_aload_n hx hb d_Box_findTotal_3 rfl (lv_at hl 1 rfl) ?_
      refine hv_alen hE hI 0 hga rfl (z := 4) rfl d_Box_findTotal_4 ?_
      refine lv_icmp_ge (tgt := 32) hx hb d_Box_findTotal_5 (by decide) (fun c5 => ?_) (fun c5 => ?_)
      · skip
        exact hv_vret hE hr hlocks hI hK (⟨rfl, o, t, heq.symm, by funext z; by_cases hz : z = bx; (rw [hz, hv_up_self]; exact hgb); (rw [hv_up_ne _ _ hz]; exact hfo z hz)⟩) (by decide) (by decide) d_Box_findTotal_32
      · skip
        exact absurd (show (4 : Int32) ≤ nI i from nI_le (a := 4) (by omega) (by omega)) c5
    | succ k ih =>
      intro i o t g H locs ls hik hgb hfo heq hI hl
      have hga : g qa = some (.inl (cA 0, 4, .inl gs)) := by rw [hfo qa (hv_ne hqa hbx (by simp))]; exact hqa
      refine lv_iload_n hx hb d_Box_findTotal_2 rfl (lv_at hl 2 rfl) ?_
      refine lv_aload_n hx hb d_Box_findTotal_3 rfl (lv_at hl 1 rfl) ?_
      refine hv_alen hE hI 0 hga rfl (z := 4) rfl d_Box_findTotal_4 ?_
      refine lv_icmp_ge (tgt := 32) hx hb d_Box_findTotal_5 (by decide) (fun c5 => ?_) (fun c5 => ?_)
      · skip
        exact absurd c5 (nI_ge (b := 4) (by omega) (by omega))
      · skip
        refine lv_aload_n hx hb d_Box_findTotal_8 rfl (lv_at hl 1 rfl) ?_
        refine lv_iload_n hx hb d_Box_findTotal_9 rfl (lv_at hl 2 rfl) ?_
        refine hv_iald hE hI 0 hga rfl (pk_in i 4 (by omega) rfl (by omega)) d_Box_findTotal_10 ?_
        rw [nI_cl (by omega)]
        refine lv_if_eq (tgt := 26) hx hb d_Box_findTotal_11 (by decide) (fun c11 => ?_) (fun c11 => ?_)
        · skip
          obtain ⟨v1, ev1⟩ : ∃ y : Int32, y = (nI i) + 1 := ⟨_, rfl⟩
          refine lv_iinc (v := v1) (lv' := [(2, .int v1), (0, .ref bx), (1, .ref qa)]) hx hb d_Box_findTotal_26 hl (k := 2) rfl (by rw [ev1]; rfl) (by decide) rfl (fun ls hl => ?_)
          refine lv_goto (tgt := 2) hx hb d_Box_findTotal_29 (by decide) ?_
          exact ih (i + 1) o t _ _ _ ls (by omega) hgb (fun z z1 => by exact hfo z z1) (by rw [← heq, findF, if_pos c11]) hI (by rw [← nI_1, ← ev1]; exact lv_sub hl [1, 2, 0] rfl)
        · skip
          refine lv_aload_n hx hb d_Box_findTotal_14 rfl (lv_at hl 0 rfl) ?_
          refine lv_iload_n hx hb d_Box_findTotal_15 rfl (lv_at hl 2 rfl) ?_
          refine hv_put hE k_Box hI 9 (by decide) w347 hgb rfl rfl rfl (Nat.le_of_ble_eq_true rfl) d_Box_findTotal_16 (fun H locs hI => ?_)
          obtain ⟨g2, eg2⟩ : ∃ z : hv_M, z = hv_up g bx (.inr (1, [.int bel, .ref ca, .ref pa, .int dp, .int al, .int w, .int h, .int d, .int ex, .int (nI i), .int t, .int ov])) := ⟨_, rfl⟩
          have hI : hv_I D CL b0 g2 s.heap H locs := by rw [eg2]; exact hI
          have h3 : g2 bx = some (.inr (1, [.int bel, .ref ca, .ref pa, .int dp, .int al, .int w, .int h, .int d, .int ex, .int (nI i), .int t, .int ov])) := by rw [eg2]; exact hv_up_self _ _ _
          have h4 : g2 qa = some (.inl (cA 0, 4, .inl gs)) := by rw [eg2]; rw [hv_up_ne _ _ (hv_ne hga hgb (by simp))]; exact hga
          refine lv_aload_n hx hb d_Box_findTotal_19 rfl (lv_at hl 0 rfl) ?_
          refine lv_aload_n hx hb d_Box_findTotal_20 rfl (lv_at hl 1 rfl) ?_
          refine lv_iload_n hx hb d_Box_findTotal_21 rfl (lv_at hl 2 rfl) ?_
          refine hv_iald hE hI 0 h4 rfl (pk_in i 4 (by omega) rfl (by omega)) d_Box_findTotal_22 ?_
          rw [nI_cl (by omega)]
          refine hv_put hE k_Box hI 10 (by decide) w349 h3 rfl rfl rfl (Nat.le_of_ble_eq_true rfl) d_Box_findTotal_23 (fun H locs hI => ?_)
          obtain ⟨g5, eg5⟩ : ∃ z : hv_M, z = hv_up g2 bx (.inr (1, [.int bel, .ref ca, .ref pa, .int dp, .int al, .int w, .int h, .int d, .int ex, .int (nI i), .int (gs i), .int ov])) := ⟨_, rfl⟩
          have hI : hv_I D CL b0 g5 s.heap H locs := by rw [eg5]; exact hI
          have h6 : g5 bx = some (.inr (1, [.int bel, .ref ca, .ref pa, .int dp, .int al, .int w, .int h, .int d, .int ex, .int (nI i), .int (gs i), .int ov])) := by rw [eg5]; exact hv_up_self _ _ _
          have h7 : g5 qa = some (.inl (cA 0, 4, .inl gs)) := by rw [eg5]; rw [hv_up_ne _ _ (hv_ne h4 h3 (by simp))]; exact h4
          obtain ⟨v8, ev8⟩ : ∃ y : Int32, y = (nI i) + 1 := ⟨_, rfl⟩
          refine lv_iinc (v := v8) (lv' := [(2, .int v8), (0, .ref bx), (1, .ref qa)]) hx hb d_Box_findTotal_26 hl (k := 2) rfl (by rw [ev8]; rfl) (by decide) rfl (fun ls hl => ?_)
          refine lv_goto (tgt := 2) hx hb d_Box_findTotal_29 (by decide) ?_
          exact ih (i + 1) (nI i) (gs i) _ _ _ ls (by omega) h6 (fun z z1 => by rw [eg5, hv_up_ne _ _ z1, eg2, hv_up_ne _ _ z1]; exact hfo z z1) (by rw [← heq, findF, if_neg c11]) hI (by rw [← nI_1, ← ev8]; exact lv_sub hl [1, 2, 0] rfl)
  exact loop 4 0 od to f _ _ ls (by omega) hbx (fun z _ => rfl) rfl hI (lv_sub hl [1, 2, 0] rfl)
end
section
set_option maxHeartbeats 4000000 in
set_option maxRecDepth 100000 in
theorem c_Box_addShares (l : Launch) (hl0 : l.stackTraces = false) (b0 : Nat) (D : va_G) (cA : Nat → ClassId) (f : hv_M) (bx ca pa n : Nat) (bel dp al w h d ex od to ov : Int32) (gc : Nat → Option Nat) (gp0 : Nat → Int32) (iv : Nat → It) (hbx : f bx = some (.inr (1, [.int bel, .ref ca, .ref pa, .int dp, .int al, .int w, .int h, .int d, .int ex, .int od, .int to, .int ov]))) (hca : f ca = some (.inl (cA 3, n, .inr (.inr (.inr (.inr gc)))))) (hpa : f pa = some (.inl (cA 0, n, .inl gp0))) (hit : itsAt f n gc iv) (hn : n ≤ 100) : hv_Met l y_Box_addShares [Cond.code y_Box_addShares b_Box_addShares 9 none] (RM 1 0 0) b0 (Fa D cA) D CL [.ref bx] f (fun v g => v = none ∧ g = hv_up f pa (.inl (cA 0, n, .inl (addS ex od to ov iv n gp0)))) (NX) := by
  refine hv_Met.of (own := "BoxPacker$Box") (by decide) rfl (Nat.le_of_ble_eq_true rfl) ?_
  intro p e s m below meth c hE hml hout hr hlocks hname hK hI ls hl
  have hl : lv_has ls 9 [(0, .ref bx)] := hl
  obtain ⟨hx, hb, hown, hts, hVK⟩ := id hE
  refine lv_aload_n hx hb d_Box_addShares_0 rfl (lv_at hl 0 rfl) ?_
  refine hv_get hE k_Box hI 10 (by decide) w349 hbx rfl d_Box_addShares_1 ?_
  refine lv_if_ne (tgt := 8) hx hb d_Box_addShares_4 (by decide) (fun c4 => ?_) (fun c4 => ?_)
  · skip
    refine lv_aload_n hx hb d_Box_addShares_8 rfl (lv_at hl 0 rfl) ?_
    refine hv_get hE k_Box hI 8 (by decide) w345 hbx rfl d_Box_addShares_9 ?_
    refine lv_if_ge (tgt := 19) hx hb d_Box_addShares_12 (by decide) (fun c12 => ?_) (fun c12 => ?_)
    · skip
      refine lv_iconst (v := 0) hx hb d_Box_addShares_19 (by decide) ?_
      obtain ⟨sh, esh⟩ : ∃ z : Bool, z = false := ⟨_, rfl⟩
      refine W.eq (g2 := F0 m 20 ls [.int (b2i sh)]) (by rw [esh]; rfl) ?_
      refine lv_istore_n (lv' := [(1, .int (b2i sh)), (0, .ref bx)]) hx hb d_Box_addShares_20 rfl hl (by decide) rfl (fun ls hl => ?_)
      refine lv_aload_n hx hb d_Box_addShares_21 rfl (lv_at hl 1 rfl) ?_
      refine hv_get hE k_Box hI 11 (by decide) w351 hbx rfl d_Box_addShares_22 ?_
      refine lv_if_le (tgt := 37) hx hb d_Box_addShares_25 (by decide) (fun c25 => ?_) (fun c25 => ?_)
      · skip
        refine lv_aload_n hx hb d_Box_addShares_37 rfl (lv_at hl 1 rfl) ?_
        refine hv_get hE k_Box hI 8 (by decide) w345 hbx rfl d_Box_addShares_38 ?_
        refine lv_i2l (v := ex.toInt64) hx hb d_Box_addShares_41 rfl ?_
        obtain ⟨gv, egv⟩ : ∃ z : Int64, z = ex.toInt64 := ⟨_, rfl⟩
        refine W.eq (g2 := F0 m 42 ls [.long gv]) (by rw [egv]) ?_
        refine lv_lstore_n (lv' := [(2, .long gv), (1, .int (b2i sh)), (0, .ref bx)]) hx hb d_Box_addShares_42 rfl hl (by decide) rfl (fun ls hl => ?_)
        refine lv_lconst (v := 0) hx hb d_Box_addShares_43 (by decide) ?_
        refine lv_lstore (lv' := [(4, .long 0), (2, .long gv), (1, .int (b2i sh)), (0, .ref bx)]) hx hb d_Box_addShares_44 hl (by decide) rfl (fun ls hl => ?_)
        refine lv_iconst (v := 0) hx hb d_Box_addShares_46 (by decide) ?_
        refine lv_istore (lv' := [(6, .int 0), (4, .long 0), (2, .long gv), (1, .int (b2i sh)), (0, .ref bx)]) hx hb d_Box_addShares_47 hl (by decide) rfl (fun ls hl => ?_)
        have loop : ∀ (k i : Nat) (bf : Int64) (gp : Nat → Int32) (g : hv_M) (H : Heap) (locs : List Loc) (ls : Array Slot), i + k = n → g pa = some (.inl (cA 0, n, .inl gp)) → (∀ z, z ≠ pa → g z = f z) → shareF sh od to gv iv k i bf gp = shareF sh od to gv iv n 0 0 gp0 → hv_I D CL b0 g s.heap H locs → lv_has ls 9 [(0, .ref bx), (1, .int (b2i sh)), (2, .long gv), (4, .long bf), (6, .int (nI i))] → W p l e (RM 1 0 0) s m ([.ref bx] : List Value).toArray below meth c H locs (0) (0) (xh_MQ below (hv_Q b0 (Fa D cA) D CL (fun v g => v = none ∧ g = hv_up f pa (.inl (cA 0, n, .inl (addS ex od to ov iv n gp0)))) (NX)) s 0 0 (fun q => b0 ≤ q)) (F0 m 49 ls []) := by
          intro k
          induction k with
          | zero =>
            intro i bf gp g H locs ls hik hgp hfo heq hI hl
            have hgb : g bx = some (.inr (1, [.int bel, .ref ca, .ref pa, .int dp, .int al, .int w, .int h, .int d, .int ex, .int od, .int to, .int ov])) := by rw [hfo bx (hv_ne hbx hpa (by simp))]; exact hbx
            have hgc : g ca = some (.inl (cA 3, n, .inr (.inr (.inr (.inr gc))))) := by rw [hfo ca (hv_ne hca hpa (by simp))]; exact hca
            refine lv_iload hx hb d_Box_addShares_49 (lv_at hl 4 rfl) ?_
            refine lv_aload_n hx hb d_Box_addShares_51 rfl (lv_at hl 0 rfl) ?_
            refine hv_get hE k_Box hI 1 (by decide) w331 hgb rfl d_Box_addShares_52 ?_
            refine hv_alen hE hI 3 hgc rfl (z := nI n) rfl d_Box_addShares_55 ?_
            refine lv_icmp_ge (tgt := 135) hx hb d_Box_addShares_56 (by decide) (fun c56 => ?_) (fun c56 => ?_)
            · skip
              exact hv_vret hE hr hlocks hI hK (⟨rfl, by rw [addS, if_neg c4, show decide (ex < 0) = sh from esh ▸ decide_eq_false (Int32.not_lt.mpr c12), show (if 0 < ov then (-to).toInt64 else ex.toInt64) = gv from egv ▸ if_neg (Int32.not_lt.mpr c25), ← heq]; funext z; by_cases hz : z = pa; (rw [hz, hv_up_self]; exact hgp); (rw [hv_up_ne _ _ hz]; exact hfo z hz)⟩) (by decide) (by decide) d_Box_addShares_135
            · skip
              exact absurd (nI_le (by omega) (by omega)) c56
          | succ k ih =>
            intro i bf gp g H locs ls hik hgp hfo heq hI hl
            have hgb : g bx = some (.inr (1, [.int bel, .ref ca, .ref pa, .int dp, .int al, .int w, .int h, .int d, .int ex, .int od, .int to, .int ov])) := by rw [hfo bx (hv_ne hbx hpa (by simp))]; exact hbx
            have hgc : g ca = some (.inl (cA 3, n, .inr (.inr (.inr (.inr gc))))) := by rw [hfo ca (hv_ne hca hpa (by simp))]; exact hca
            obtain ⟨q, hq1, hq2⟩ := hit i (by omega)
            rcases hiv : iv i with ⟨t, iw, ih9, id9, inn, z9⟩ | ⟨iw, a9, b9, c9, e9⟩
            · rw [hiv] at hq2
              have hgq : g q = some (.inr (2, [.int t, .int iw, .int ih9, .int id9, va_rf inn, .int z9])) := by rw [hfo q (hv_ne hq2 hpa (by simp [itE]))]; exact hq2
              refine lv_iload hx hb d_Box_addShares_49 (lv_at hl 4 rfl) ?_
              refine lv_aload_n hx hb d_Box_addShares_51 rfl (lv_at hl 0 rfl) ?_
              refine hv_get hE k_Box hI 1 (by decide) w331 hgb rfl d_Box_addShares_52 ?_
              refine hv_alen hE hI 3 hgc rfl (z := nI n) rfl d_Box_addShares_55 ?_
              refine lv_icmp_ge (tgt := 135) hx hb d_Box_addShares_56 (by decide) (fun c56 => ?_) (fun c56 => ?_)
              · skip
                exact absurd c56 (nI_ge (by omega) (by omega))
              · skip
                refine lv_aload_n hx hb d_Box_addShares_59 rfl (lv_at hl 0 rfl) ?_
                refine hv_get hE k_Box hI 2 (by decide) w333 hgb rfl d_Box_addShares_60 ?_
                refine lv_iload hx hb d_Box_addShares_63 (lv_at hl 4 rfl) ?_
                refine lv_dup2_11 hx hb d_Box_addShares_65 rfl rfl ?_
                refine hv_iald hE hI 0 hgp rfl (pk_in i n (by omega) rfl (by omega)) d_Box_addShares_66 ?_
                rw [nI_cl (by omega)]
                refine lv_lload hx hb d_Box_addShares_67 (lv_at hl 3 rfl) ?_
                refine lv_lload_n hx hb d_Box_addShares_69 rfl (lv_at hl 2 rfl) ?_
                refine lv_lmul hx hb d_Box_addShares_70 ?_
                refine lv_aload_n hx hb d_Box_addShares_71 rfl (lv_at hl 0 rfl) ?_
                refine hv_get hE k_Box hI 10 (by decide) w349 hgb rfl d_Box_addShares_72 ?_
                refine hv_SNp (As := [.long (bf * gv), .int to]) (rest := [.int (gp i), .int (nI i), .ref pa]) hE hml hK hI (c_BP_dividedToNearest l hl0 b0 D cA g (bf * gv) to (two_ne c4)) cd_BP_dividedToNearest w442 w443 rfl rfl rfl hl.1 (Nat.le_of_ble_eq_true rfl) d_Box_addShares_75 ⟨by decide, by decide⟩ ⟨by decide, by decide⟩ (fun H locs hI => ?_)
                refine W.eq (g2 := F0 m 78 ls [.int (dtn (bf * gv) to), .int (gp i), .int (nI i), .ref pa]) rfl ?_
                refine lv_iadd hx hb d_Box_addShares_78 ?_
                refine hv_iast hE hI 0 hgp rfl (pk_in i n (by omega) rfl (by omega)) d_Box_addShares_79 (fun H locs hI => ?_)
                rw [nI_cl (by omega)] at hI
                obtain ⟨g1, eg1⟩ : ∃ z : hv_M, z = hv_up g pa (.inl (cA 0, n, .inl (upd gp i ((gp i) + (dtn (bf * gv) to))))) := ⟨_, rfl⟩
                have hI : hv_I D CL b0 g1 s.heap H locs := by rw [eg1]; exact hI
                have h2 : g1 bx = some (.inr (1, [.int bel, .ref ca, .ref pa, .int dp, .int al, .int w, .int h, .int d, .int ex, .int od, .int to, .int ov])) := by rw [eg1]; rw [hv_up_ne _ _ (hv_ne hgb hgp (by simp))]; exact hgb
                have h3 : g1 pa = some (.inl (cA 0, n, .inl (upd gp i ((gp i) + (dtn (bf * gv) to))))) := by rw [eg1]; exact hv_up_self _ _ _
                have h4 : g1 ca = some (.inl (cA 3, n, .inr (.inr (.inr (.inr gc))))) := by rw [eg1]; rw [hv_up_ne _ _ (hv_ne hgc hgp (by simp))]; exact hgc
                have h5 : g1 q = some (.inr (2, [.int t, .int iw, .int ih9, .int id9, va_rf inn, .int z9])) := by rw [eg1]; rw [hv_up_ne _ _ (hv_ne hgq hgp (by simp))]; exact hgq
                refine lv_aload_n hx hb d_Box_addShares_80 rfl (lv_at hl 0 rfl) ?_
                refine hv_get hE k_Box hI 1 (by decide) w331 h2 rfl d_Box_addShares_81 ?_
                refine lv_iload hx hb d_Box_addShares_84 (lv_at hl 4 rfl) ?_
                refine hv_aald hE hI 3 h4 rfl (pk_in i n (by omega) rfl (by omega)) d_Box_addShares_86 ?_
                rw [nI_cl (by omega)]
                rw [hq1]
                refine W.eq (g2 := F0 m 87 ls [.ref q]) rfl ?_
                refine lv_astore (lv' := [(8, .ref q), (0, .ref bx), (1, .int (b2i sh)), (2, .long gv), (4, .long bf), (6, .int (nI i))]) hx hb d_Box_addShares_87 hl (by decide) rfl (fun ls hl => ?_)
                refine lv_aload hx hb d_Box_addShares_89 (lv_at hl 0 rfl) ?_
                refine hv_instN hE hI hK h5 rfl (nm := "BoxPacker$Space") (by decide) w413 d_Box_addShares_91 ?_
                refine lv_if_eq (tgt := 129) hx hb d_Box_addShares_94 (by decide) (fun c94 => ?_) (fun c94 => ?_)
                · skip
                  obtain ⟨v6, ev6⟩ : ∃ y : Int32, y = (nI i) + 1 := ⟨_, rfl⟩
                  refine lv_iinc (v := v6) (lv' := [(6, .int v6), (8, .ref q), (0, .ref bx), (1, .int (b2i sh)), (2, .long gv), (4, .long bf)]) hx hb d_Box_addShares_129 hl (k := 5) rfl (by rw [ev6]; rfl) (by decide) rfl (fun ls hl => ?_)
                  refine lv_goto (tgt := 49) hx hb d_Box_addShares_132 (by decide) ?_
                  exact ih (i + 1) bf _ _ _ _ ls (by omega) h3 (fun z z1 => by rw [eg1, hv_up_ne _ _ z1]; exact hfo z z1) (by rw [← heq]; simp only [shareF, hiv]) hI (by rw [← nI_1, ← ev6]; exact lv_sub hl [2, 3, 4, 5, 0] rfl)
                · skip
                  exact absurd rfl c94
            · rw [hiv] at hq2
              have hgq : g q = some (.inr (3, [.int iw, .int a9, .int b9, .int c9, .int e9])) := by rw [hfo q (hv_ne hq2 hpa (by simp [itE]))]; exact hq2
              refine lv_iload hx hb d_Box_addShares_49 (lv_at hl 4 rfl) ?_
              refine lv_aload_n hx hb d_Box_addShares_51 rfl (lv_at hl 0 rfl) ?_
              refine hv_get hE k_Box hI 1 (by decide) w331 hgb rfl d_Box_addShares_52 ?_
              refine hv_alen hE hI 3 hgc rfl (z := nI n) rfl d_Box_addShares_55 ?_
              refine lv_icmp_ge (tgt := 135) hx hb d_Box_addShares_56 (by decide) (fun c56 => ?_) (fun c56 => ?_)
              · skip
                exact absurd c56 (nI_ge (by omega) (by omega))
              · skip
                refine lv_aload_n hx hb d_Box_addShares_59 rfl (lv_at hl 0 rfl) ?_
                refine hv_get hE k_Box hI 2 (by decide) w333 hgb rfl d_Box_addShares_60 ?_
                refine lv_iload hx hb d_Box_addShares_63 (lv_at hl 4 rfl) ?_
                refine lv_dup2_11 hx hb d_Box_addShares_65 rfl rfl ?_
                refine hv_iald hE hI 0 hgp rfl (pk_in i n (by omega) rfl (by omega)) d_Box_addShares_66 ?_
                rw [nI_cl (by omega)]
                refine lv_lload hx hb d_Box_addShares_67 (lv_at hl 3 rfl) ?_
                refine lv_lload_n hx hb d_Box_addShares_69 rfl (lv_at hl 2 rfl) ?_
                refine lv_lmul hx hb d_Box_addShares_70 ?_
                refine lv_aload_n hx hb d_Box_addShares_71 rfl (lv_at hl 0 rfl) ?_
                refine hv_get hE k_Box hI 10 (by decide) w349 hgb rfl d_Box_addShares_72 ?_
                refine hv_SNp (As := [.long (bf * gv), .int to]) (rest := [.int (gp i), .int (nI i), .ref pa]) hE hml hK hI (c_BP_dividedToNearest l hl0 b0 D cA g (bf * gv) to (two_ne c4)) cd_BP_dividedToNearest w442 w443 rfl rfl rfl hl.1 (Nat.le_of_ble_eq_true rfl) d_Box_addShares_75 ⟨by decide, by decide⟩ ⟨by decide, by decide⟩ (fun H locs hI => ?_)
                refine W.eq (g2 := F0 m 78 ls [.int (dtn (bf * gv) to), .int (gp i), .int (nI i), .ref pa]) rfl ?_
                refine lv_iadd hx hb d_Box_addShares_78 ?_
                refine hv_iast hE hI 0 hgp rfl (pk_in i n (by omega) rfl (by omega)) d_Box_addShares_79 (fun H locs hI => ?_)
                rw [nI_cl (by omega)] at hI
                obtain ⟨g7, eg7⟩ : ∃ z : hv_M, z = hv_up g pa (.inl (cA 0, n, .inl (upd gp i ((gp i) + (dtn (bf * gv) to))))) := ⟨_, rfl⟩
                have hI : hv_I D CL b0 g7 s.heap H locs := by rw [eg7]; exact hI
                have h8 : g7 bx = some (.inr (1, [.int bel, .ref ca, .ref pa, .int dp, .int al, .int w, .int h, .int d, .int ex, .int od, .int to, .int ov])) := by rw [eg7]; rw [hv_up_ne _ _ (hv_ne hgb hgp (by simp))]; exact hgb
                have h9 : g7 pa = some (.inl (cA 0, n, .inl (upd gp i ((gp i) + (dtn (bf * gv) to))))) := by rw [eg7]; exact hv_up_self _ _ _
                have h10 : g7 ca = some (.inl (cA 3, n, .inr (.inr (.inr (.inr gc))))) := by rw [eg7]; rw [hv_up_ne _ _ (hv_ne hgc hgp (by simp))]; exact hgc
                have h11 : g7 q = some (.inr (3, [.int iw, .int a9, .int b9, .int c9, .int e9])) := by rw [eg7]; rw [hv_up_ne _ _ (hv_ne hgq hgp (by simp))]; exact hgq
                refine lv_aload_n hx hb d_Box_addShares_80 rfl (lv_at hl 0 rfl) ?_
                refine hv_get hE k_Box hI 1 (by decide) w331 h8 rfl d_Box_addShares_81 ?_
                refine lv_iload hx hb d_Box_addShares_84 (lv_at hl 4 rfl) ?_
                refine hv_aald hE hI 3 h10 rfl (pk_in i n (by omega) rfl (by omega)) d_Box_addShares_86 ?_
                rw [nI_cl (by omega)]
                rw [hq1]
                refine W.eq (g2 := F0 m 87 ls [.ref q]) rfl ?_
                refine lv_astore (lv' := [(8, .ref q), (0, .ref bx), (1, .int (b2i sh)), (2, .long gv), (4, .long bf), (6, .int (nI i))]) hx hb d_Box_addShares_87 hl (by decide) rfl (fun ls hl => ?_)
                refine lv_aload hx hb d_Box_addShares_89 (lv_at hl 0 rfl) ?_
                refine hv_instS hE hI h11 rfl w413 d_Box_addShares_91 ?_
                refine lv_if_eq (tgt := 129) hx hb d_Box_addShares_94 (by decide) (fun c94 => ?_) (fun c94 => ?_)
                · skip
                  exact absurd c94 (by decide)
                · skip
                  refine lv_aload hx hb d_Box_addShares_97 (lv_at hl 0 rfl) ?_
                  refine hv_castS hE hI h11 rfl w413 d_Box_addShares_99 ?_
                  refine lv_astore (lv' := [(7, .ref q), (8, .ref q), (0, .ref bx), (1, .int (b2i sh)), (2, .long gv), (4, .long bf), (6, .int (nI i))]) hx hb d_Box_addShares_102 hl (by decide) rfl (fun ls hl => ?_)
                  refine lv_aload hx hb d_Box_addShares_104 (lv_at hl 0 rfl) ?_
                  refine lv_iload_n hx hb d_Box_addShares_106 rfl (lv_at hl 3 rfl) ?_
                  refine hv_VNp (As := [.int (b2i sh)]) (rest := []) hE hml hK hI (c_Space_giveOrder l hl0 b0 D cA g7 q iw a9 b9 c9 e9 sh h11) cd_Space_giveOrder w422 w424 ws8 h11 rfl rfl rfl rfl hl.1 (Nat.le_of_ble_eq_true rfl) d_Box_addShares_107 ⟨by decide, by decide⟩ ⟨by decide, by decide⟩ (fun H locs hI => ?_)
                  refine W.eq (g2 := F0 m 110 ls [.int (gvO sh b9 e9)]) rfl ?_
                  refine lv_aload_n hx hb d_Box_addShares_110 rfl (lv_at hl 2 rfl) ?_
                  refine hv_get hE k_Box hI 9 (by decide) w347 h8 rfl d_Box_addShares_111 ?_
                  refine lv_icmp_ne (tgt := 129) hx hb d_Box_addShares_114 (by decide) (fun c114 => ?_) (fun c114 => ?_)
                  · skip
                    obtain ⟨v12, ev12⟩ : ∃ y : Int32, y = (nI i) + 1 := ⟨_, rfl⟩
                    refine lv_iinc (v := v12) (lv' := [(6, .int v12), (7, .ref q), (8, .ref q), (0, .ref bx), (1, .int (b2i sh)), (2, .long gv), (4, .long bf)]) hx hb d_Box_addShares_129 hl (k := 6) rfl (by rw [ev12]; rfl) (by decide) rfl (fun ls hl => ?_)
                    refine lv_goto (tgt := 49) hx hb d_Box_addShares_132 (by decide) ?_
                    exact ih (i + 1) bf _ _ _ _ ls (by omega) h9 (fun z z1 => by rw [eg7, hv_up_ne _ _ z1]; exact hfo z z1) (by rw [← heq]; simp only [shareF, hiv, if_neg c114]) hI (by rw [← nI_1, ← ev12]; exact lv_sub hl [3, 4, 5, 6, 0] rfl)
                  · skip
                    refine lv_lload hx hb d_Box_addShares_117 (lv_at hl 5 rfl) ?_
                    refine lv_aload hx hb d_Box_addShares_119 (lv_at hl 0 rfl) ?_
                    refine lv_iload_n hx hb d_Box_addShares_121 rfl (lv_at hl 3 rfl) ?_
                    refine hv_VNp (As := [.int (b2i sh)]) (rest := [.long bf]) hE hml hK hI (c_Space_give l hl0 b0 D cA g7 q iw a9 b9 c9 e9 sh h11) cd_Space_give w426 w428 ws9 h11 rfl rfl rfl rfl hl.1 (Nat.le_of_ble_eq_true rfl) d_Box_addShares_122 ⟨by decide, by decide⟩ ⟨by decide, by decide⟩ (fun H locs hI => ?_)
                    refine W.eq (g2 := F0 m 125 ls [.int (gvA sh a9 c9), .long bf]) rfl ?_
                    refine lv_i2l (v := (gvA sh a9 c9).toInt64) hx hb d_Box_addShares_125 rfl ?_
                    refine lv_ladd hx hb d_Box_addShares_126 ?_
                    refine lv_lstore (lv' := [(4, .long (bf + ((gvA sh a9 c9).toInt64))), (7, .ref q), (8, .ref q), (0, .ref bx), (1, .int (b2i sh)), (2, .long gv), (6, .int (nI i))]) hx hb d_Box_addShares_127 hl (by decide) rfl (fun ls hl => ?_)
                    obtain ⟨v13, ev13⟩ : ∃ y : Int32, y = (nI i) + 1 := ⟨_, rfl⟩
                    refine lv_iinc (v := v13) (lv' := [(6, .int v13), (4, .long (bf + ((gvA sh a9 c9).toInt64))), (7, .ref q), (8, .ref q), (0, .ref bx), (1, .int (b2i sh)), (2, .long gv)]) hx hb d_Box_addShares_129 hl (k := 6) rfl (by rw [ev13]; rfl) (by decide) rfl (fun ls hl => ?_)
                    refine lv_goto (tgt := 49) hx hb d_Box_addShares_132 (by decide) ?_
                    exact ih (i + 1) (bf + ((gvA sh a9 c9).toInt64)) _ _ _ _ ls (by omega) h9 (fun z z1 => by rw [eg7, hv_up_ne _ _ z1]; exact hfo z z1) (by rw [← heq]; simp only [shareF, hiv, if_pos c114]) hI (by rw [← nI_1, ← ev13]; exact lv_sub hl [4, 5, 6, 1, 0] rfl)
        exact loop n 0 0 gp0 f _ _ ls (by omega) hpa (fun z _ => rfl) rfl hI (lv_sub hl [4, 3, 2, 1, 0] rfl)
      · skip
        refine lv_aload_n hx hb d_Box_addShares_28 rfl (lv_at hl 1 rfl) ?_
        refine hv_get hE k_Box hI 10 (by decide) w349 hbx rfl d_Box_addShares_29 ?_
        refine lv_ineg hx hb d_Box_addShares_32 ?_
        refine lv_i2l (v := (-to).toInt64) hx hb d_Box_addShares_33 rfl ?_
        refine lv_goto (tgt := 42) hx hb d_Box_addShares_34 (by decide) ?_
        obtain ⟨gv, egv⟩ : ∃ z : Int64, z = (-to).toInt64 := ⟨_, rfl⟩
        refine W.eq (g2 := F0 m 42 ls [.long gv]) (by rw [egv]) ?_
        refine lv_lstore_n (lv' := [(2, .long gv), (1, .int (b2i sh)), (0, .ref bx)]) hx hb d_Box_addShares_42 rfl hl (by decide) rfl (fun ls hl => ?_)
        refine lv_lconst (v := 0) hx hb d_Box_addShares_43 (by decide) ?_
        refine lv_lstore (lv' := [(4, .long 0), (2, .long gv), (1, .int (b2i sh)), (0, .ref bx)]) hx hb d_Box_addShares_44 hl (by decide) rfl (fun ls hl => ?_)
        refine lv_iconst (v := 0) hx hb d_Box_addShares_46 (by decide) ?_
        refine lv_istore (lv' := [(6, .int 0), (4, .long 0), (2, .long gv), (1, .int (b2i sh)), (0, .ref bx)]) hx hb d_Box_addShares_47 hl (by decide) rfl (fun ls hl => ?_)
        have loop : ∀ (k i : Nat) (bf : Int64) (gp : Nat → Int32) (g : hv_M) (H : Heap) (locs : List Loc) (ls : Array Slot), i + k = n → g pa = some (.inl (cA 0, n, .inl gp)) → (∀ z, z ≠ pa → g z = f z) → shareF sh od to gv iv k i bf gp = shareF sh od to gv iv n 0 0 gp0 → hv_I D CL b0 g s.heap H locs → lv_has ls 9 [(0, .ref bx), (1, .int (b2i sh)), (2, .long gv), (4, .long bf), (6, .int (nI i))] → W p l e (RM 1 0 0) s m ([.ref bx] : List Value).toArray below meth c H locs (0) (0) (xh_MQ below (hv_Q b0 (Fa D cA) D CL (fun v g => v = none ∧ g = hv_up f pa (.inl (cA 0, n, .inl (addS ex od to ov iv n gp0)))) (NX)) s 0 0 (fun q => b0 ≤ q)) (F0 m 49 ls []) := by
          intro k
          induction k with
          | zero =>
            intro i bf gp g H locs ls hik hgp hfo heq hI hl
            have hgb : g bx = some (.inr (1, [.int bel, .ref ca, .ref pa, .int dp, .int al, .int w, .int h, .int d, .int ex, .int od, .int to, .int ov])) := by rw [hfo bx (hv_ne hbx hpa (by simp))]; exact hbx
            have hgc : g ca = some (.inl (cA 3, n, .inr (.inr (.inr (.inr gc))))) := by rw [hfo ca (hv_ne hca hpa (by simp))]; exact hca
            refine lv_iload hx hb d_Box_addShares_49 (lv_at hl 4 rfl) ?_
            refine lv_aload_n hx hb d_Box_addShares_51 rfl (lv_at hl 0 rfl) ?_
            refine hv_get hE k_Box hI 1 (by decide) w331 hgb rfl d_Box_addShares_52 ?_
            refine hv_alen hE hI 3 hgc rfl (z := nI n) rfl d_Box_addShares_55 ?_
            refine lv_icmp_ge (tgt := 135) hx hb d_Box_addShares_56 (by decide) (fun c56 => ?_) (fun c56 => ?_)
            · skip
              exact hv_vret hE hr hlocks hI hK (⟨rfl, by rw [addS, if_neg c4, show decide (ex < 0) = sh from esh ▸ decide_eq_false (Int32.not_lt.mpr c12), show (if 0 < ov then (-to).toInt64 else ex.toInt64) = gv from egv ▸ if_pos (Int32.not_le.mp c25), ← heq]; funext z; by_cases hz : z = pa; (rw [hz, hv_up_self]; exact hgp); (rw [hv_up_ne _ _ hz]; exact hfo z hz)⟩) (by decide) (by decide) d_Box_addShares_135
            · skip
              exact absurd (nI_le (by omega) (by omega)) c56
          | succ k ih =>
            intro i bf gp g H locs ls hik hgp hfo heq hI hl
            have hgb : g bx = some (.inr (1, [.int bel, .ref ca, .ref pa, .int dp, .int al, .int w, .int h, .int d, .int ex, .int od, .int to, .int ov])) := by rw [hfo bx (hv_ne hbx hpa (by simp))]; exact hbx
            have hgc : g ca = some (.inl (cA 3, n, .inr (.inr (.inr (.inr gc))))) := by rw [hfo ca (hv_ne hca hpa (by simp))]; exact hca
            obtain ⟨q, hq1, hq2⟩ := hit i (by omega)
            rcases hiv : iv i with ⟨t, iw, ih9, id9, inn, z9⟩ | ⟨iw, a9, b9, c9, e9⟩
            · rw [hiv] at hq2
              have hgq : g q = some (.inr (2, [.int t, .int iw, .int ih9, .int id9, va_rf inn, .int z9])) := by rw [hfo q (hv_ne hq2 hpa (by simp [itE]))]; exact hq2
              refine lv_iload hx hb d_Box_addShares_49 (lv_at hl 4 rfl) ?_
              refine lv_aload_n hx hb d_Box_addShares_51 rfl (lv_at hl 0 rfl) ?_
              refine hv_get hE k_Box hI 1 (by decide) w331 hgb rfl d_Box_addShares_52 ?_
              refine hv_alen hE hI 3 hgc rfl (z := nI n) rfl d_Box_addShares_55 ?_
              refine lv_icmp_ge (tgt := 135) hx hb d_Box_addShares_56 (by decide) (fun c56 => ?_) (fun c56 => ?_)
              · skip
                exact absurd c56 (nI_ge (by omega) (by omega))
              · skip
                refine lv_aload_n hx hb d_Box_addShares_59 rfl (lv_at hl 0 rfl) ?_
                refine hv_get hE k_Box hI 2 (by decide) w333 hgb rfl d_Box_addShares_60 ?_
                refine lv_iload hx hb d_Box_addShares_63 (lv_at hl 4 rfl) ?_
                refine lv_dup2_11 hx hb d_Box_addShares_65 rfl rfl ?_
                refine hv_iald hE hI 0 hgp rfl (pk_in i n (by omega) rfl (by omega)) d_Box_addShares_66 ?_
                rw [nI_cl (by omega)]
                refine lv_lload hx hb d_Box_addShares_67 (lv_at hl 3 rfl) ?_
                refine lv_lload_n hx hb d_Box_addShares_69 rfl (lv_at hl 2 rfl) ?_
                refine lv_lmul hx hb d_Box_addShares_70 ?_
                refine lv_aload_n hx hb d_Box_addShares_71 rfl (lv_at hl 0 rfl) ?_
                refine hv_get hE k_Box hI 10 (by decide) w349 hgb rfl d_Box_addShares_72 ?_
                refine hv_SNp (As := [.long (bf * gv), .int to]) (rest := [.int (gp i), .int (nI i), .ref pa]) hE hml hK hI (c_BP_dividedToNearest l hl0 b0 D cA g (bf * gv) to (two_ne c4)) cd_BP_dividedToNearest w442 w443 rfl rfl rfl hl.1 (Nat.le_of_ble_eq_true rfl) d_Box_addShares_75 ⟨by decide, by decide⟩ ⟨by decide, by decide⟩ (fun H locs hI => ?_)
                refine W.eq (g2 := F0 m 78 ls [.int (dtn (bf * gv) to), .int (gp i), .int (nI i), .ref pa]) rfl ?_
                refine lv_iadd hx hb d_Box_addShares_78 ?_
                refine hv_iast hE hI 0 hgp rfl (pk_in i n (by omega) rfl (by omega)) d_Box_addShares_79 (fun H locs hI => ?_)
                rw [nI_cl (by omega)] at hI
                obtain ⟨g14, eg14⟩ : ∃ z : hv_M, z = hv_up g pa (.inl (cA 0, n, .inl (upd gp i ((gp i) + (dtn (bf * gv) to))))) := ⟨_, rfl⟩
                have hI : hv_I D CL b0 g14 s.heap H locs := by rw [eg14]; exact hI
                have h15 : g14 bx = some (.inr (1, [.int bel, .ref ca, .ref pa, .int dp, .int al, .int w, .int h, .int d, .int ex, .int od, .int to, .int ov])) := by rw [eg14]; rw [hv_up_ne _ _ (hv_ne hgb hgp (by simp))]; exact hgb
                have h16 : g14 pa = some (.inl (cA 0, n, .inl (upd gp i ((gp i) + (dtn (bf * gv) to))))) := by rw [eg14]; exact hv_up_self _ _ _
                have h17 : g14 ca = some (.inl (cA 3, n, .inr (.inr (.inr (.inr gc))))) := by rw [eg14]; rw [hv_up_ne _ _ (hv_ne hgc hgp (by simp))]; exact hgc
                have h18 : g14 q = some (.inr (2, [.int t, .int iw, .int ih9, .int id9, va_rf inn, .int z9])) := by rw [eg14]; rw [hv_up_ne _ _ (hv_ne hgq hgp (by simp))]; exact hgq
                refine lv_aload_n hx hb d_Box_addShares_80 rfl (lv_at hl 0 rfl) ?_
                refine hv_get hE k_Box hI 1 (by decide) w331 h15 rfl d_Box_addShares_81 ?_
                refine lv_iload hx hb d_Box_addShares_84 (lv_at hl 4 rfl) ?_
                refine hv_aald hE hI 3 h17 rfl (pk_in i n (by omega) rfl (by omega)) d_Box_addShares_86 ?_
                rw [nI_cl (by omega)]
                rw [hq1]
                refine W.eq (g2 := F0 m 87 ls [.ref q]) rfl ?_
                refine lv_astore (lv' := [(8, .ref q), (0, .ref bx), (1, .int (b2i sh)), (2, .long gv), (4, .long bf), (6, .int (nI i))]) hx hb d_Box_addShares_87 hl (by decide) rfl (fun ls hl => ?_)
                refine lv_aload hx hb d_Box_addShares_89 (lv_at hl 0 rfl) ?_
                refine hv_instN hE hI hK h18 rfl (nm := "BoxPacker$Space") (by decide) w413 d_Box_addShares_91 ?_
                refine lv_if_eq (tgt := 129) hx hb d_Box_addShares_94 (by decide) (fun c94 => ?_) (fun c94 => ?_)
                · skip
                  obtain ⟨v19, ev19⟩ : ∃ y : Int32, y = (nI i) + 1 := ⟨_, rfl⟩
                  refine lv_iinc (v := v19) (lv' := [(6, .int v19), (8, .ref q), (0, .ref bx), (1, .int (b2i sh)), (2, .long gv), (4, .long bf)]) hx hb d_Box_addShares_129 hl (k := 5) rfl (by rw [ev19]; rfl) (by decide) rfl (fun ls hl => ?_)
                  refine lv_goto (tgt := 49) hx hb d_Box_addShares_132 (by decide) ?_
                  exact ih (i + 1) bf _ _ _ _ ls (by omega) h16 (fun z z1 => by rw [eg14, hv_up_ne _ _ z1]; exact hfo z z1) (by rw [← heq]; simp only [shareF, hiv]) hI (by rw [← nI_1, ← ev19]; exact lv_sub hl [2, 3, 4, 5, 0] rfl)
                · skip
                  exact absurd rfl c94
            · rw [hiv] at hq2
              have hgq : g q = some (.inr (3, [.int iw, .int a9, .int b9, .int c9, .int e9])) := by rw [hfo q (hv_ne hq2 hpa (by simp [itE]))]; exact hq2
              refine lv_iload hx hb d_Box_addShares_49 (lv_at hl 4 rfl) ?_
              refine lv_aload_n hx hb d_Box_addShares_51 rfl (lv_at hl 0 rfl) ?_
              refine hv_get hE k_Box hI 1 (by decide) w331 hgb rfl d_Box_addShares_52 ?_
              refine hv_alen hE hI 3 hgc rfl (z := nI n) rfl d_Box_addShares_55 ?_
              refine lv_icmp_ge (tgt := 135) hx hb d_Box_addShares_56 (by decide) (fun c56 => ?_) (fun c56 => ?_)
              · skip
                exact absurd c56 (nI_ge (by omega) (by omega))
              · skip
                refine lv_aload_n hx hb d_Box_addShares_59 rfl (lv_at hl 0 rfl) ?_
                refine hv_get hE k_Box hI 2 (by decide) w333 hgb rfl d_Box_addShares_60 ?_
                refine lv_iload hx hb d_Box_addShares_63 (lv_at hl 4 rfl) ?_
                refine lv_dup2_11 hx hb d_Box_addShares_65 rfl rfl ?_
                refine hv_iald hE hI 0 hgp rfl (pk_in i n (by omega) rfl (by omega)) d_Box_addShares_66 ?_
                rw [nI_cl (by omega)]
                refine lv_lload hx hb d_Box_addShares_67 (lv_at hl 3 rfl) ?_
                refine lv_lload_n hx hb d_Box_addShares_69 rfl (lv_at hl 2 rfl) ?_
                refine lv_lmul hx hb d_Box_addShares_70 ?_
                refine lv_aload_n hx hb d_Box_addShares_71 rfl (lv_at hl 0 rfl) ?_
                refine hv_get hE k_Box hI 10 (by decide) w349 hgb rfl d_Box_addShares_72 ?_
                refine hv_SNp (As := [.long (bf * gv), .int to]) (rest := [.int (gp i), .int (nI i), .ref pa]) hE hml hK hI (c_BP_dividedToNearest l hl0 b0 D cA g (bf * gv) to (two_ne c4)) cd_BP_dividedToNearest w442 w443 rfl rfl rfl hl.1 (Nat.le_of_ble_eq_true rfl) d_Box_addShares_75 ⟨by decide, by decide⟩ ⟨by decide, by decide⟩ (fun H locs hI => ?_)
                refine W.eq (g2 := F0 m 78 ls [.int (dtn (bf * gv) to), .int (gp i), .int (nI i), .ref pa]) rfl ?_
                refine lv_iadd hx hb d_Box_addShares_78 ?_
                refine hv_iast hE hI 0 hgp rfl (pk_in i n (by omega) rfl (by omega)) d_Box_addShares_79 (fun H locs hI => ?_)
                rw [nI_cl (by omega)] at hI
                obtain ⟨g20, eg20⟩ : ∃ z : hv_M, z = hv_up g pa (.inl (cA 0, n, .inl (upd gp i ((gp i) + (dtn (bf * gv) to))))) := ⟨_, rfl⟩
                have hI : hv_I D CL b0 g20 s.heap H locs := by rw [eg20]; exact hI
                have h21 : g20 bx = some (.inr (1, [.int bel, .ref ca, .ref pa, .int dp, .int al, .int w, .int h, .int d, .int ex, .int od, .int to, .int ov])) := by rw [eg20]; rw [hv_up_ne _ _ (hv_ne hgb hgp (by simp))]; exact hgb
                have h22 : g20 pa = some (.inl (cA 0, n, .inl (upd gp i ((gp i) + (dtn (bf * gv) to))))) := by rw [eg20]; exact hv_up_self _ _ _
                have h23 : g20 ca = some (.inl (cA 3, n, .inr (.inr (.inr (.inr gc))))) := by rw [eg20]; rw [hv_up_ne _ _ (hv_ne hgc hgp (by simp))]; exact hgc
                have h24 : g20 q = some (.inr (3, [.int iw, .int a9, .int b9, .int c9, .int e9])) := by rw [eg20]; rw [hv_up_ne _ _ (hv_ne hgq hgp (by simp))]; exact hgq
                refine lv_aload_n hx hb d_Box_addShares_80 rfl (lv_at hl 0 rfl) ?_
                refine hv_get hE k_Box hI 1 (by decide) w331 h21 rfl d_Box_addShares_81 ?_
                refine lv_iload hx hb d_Box_addShares_84 (lv_at hl 4 rfl) ?_
                refine hv_aald hE hI 3 h23 rfl (pk_in i n (by omega) rfl (by omega)) d_Box_addShares_86 ?_
                rw [nI_cl (by omega)]
                rw [hq1]
                refine W.eq (g2 := F0 m 87 ls [.ref q]) rfl ?_
                refine lv_astore (lv' := [(8, .ref q), (0, .ref bx), (1, .int (b2i sh)), (2, .long gv), (4, .long bf), (6, .int (nI i))]) hx hb d_Box_addShares_87 hl (by decide) rfl (fun ls hl => ?_)
                refine lv_aload hx hb d_Box_addShares_89 (lv_at hl 0 rfl) ?_
                refine hv_instS hE hI h24 rfl w413 d_Box_addShares_91 ?_
                refine lv_if_eq (tgt := 129) hx hb d_Box_addShares_94 (by decide) (fun c94 => ?_) (fun c94 => ?_)
                · skip
                  exact absurd c94 (by decide)
                · skip
                  refine lv_aload hx hb d_Box_addShares_97 (lv_at hl 0 rfl) ?_
                  refine hv_castS hE hI h24 rfl w413 d_Box_addShares_99 ?_
                  refine lv_astore (lv' := [(7, .ref q), (8, .ref q), (0, .ref bx), (1, .int (b2i sh)), (2, .long gv), (4, .long bf), (6, .int (nI i))]) hx hb d_Box_addShares_102 hl (by decide) rfl (fun ls hl => ?_)
                  refine lv_aload hx hb d_Box_addShares_104 (lv_at hl 0 rfl) ?_
                  refine lv_iload_n hx hb d_Box_addShares_106 rfl (lv_at hl 3 rfl) ?_
                  refine hv_VNp (As := [.int (b2i sh)]) (rest := []) hE hml hK hI (c_Space_giveOrder l hl0 b0 D cA g20 q iw a9 b9 c9 e9 sh h24) cd_Space_giveOrder w422 w424 ws8 h24 rfl rfl rfl rfl hl.1 (Nat.le_of_ble_eq_true rfl) d_Box_addShares_107 ⟨by decide, by decide⟩ ⟨by decide, by decide⟩ (fun H locs hI => ?_)
                  refine W.eq (g2 := F0 m 110 ls [.int (gvO sh b9 e9)]) rfl ?_
                  refine lv_aload_n hx hb d_Box_addShares_110 rfl (lv_at hl 2 rfl) ?_
                  refine hv_get hE k_Box hI 9 (by decide) w347 h21 rfl d_Box_addShares_111 ?_
                  refine lv_icmp_ne (tgt := 129) hx hb d_Box_addShares_114 (by decide) (fun c114 => ?_) (fun c114 => ?_)
                  · skip
                    obtain ⟨v25, ev25⟩ : ∃ y : Int32, y = (nI i) + 1 := ⟨_, rfl⟩
                    refine lv_iinc (v := v25) (lv' := [(6, .int v25), (7, .ref q), (8, .ref q), (0, .ref bx), (1, .int (b2i sh)), (2, .long gv), (4, .long bf)]) hx hb d_Box_addShares_129 hl (k := 6) rfl (by rw [ev25]; rfl) (by decide) rfl (fun ls hl => ?_)
                    refine lv_goto (tgt := 49) hx hb d_Box_addShares_132 (by decide) ?_
                    exact ih (i + 1) bf _ _ _ _ ls (by omega) h22 (fun z z1 => by rw [eg20, hv_up_ne _ _ z1]; exact hfo z z1) (by rw [← heq]; simp only [shareF, hiv, if_neg c114]) hI (by rw [← nI_1, ← ev25]; exact lv_sub hl [3, 4, 5, 6, 0] rfl)
                  · skip
                    refine lv_lload hx hb d_Box_addShares_117 (lv_at hl 5 rfl) ?_
                    refine lv_aload hx hb d_Box_addShares_119 (lv_at hl 0 rfl) ?_
                    refine lv_iload_n hx hb d_Box_addShares_121 rfl (lv_at hl 3 rfl) ?_
                    refine hv_VNp (As := [.int (b2i sh)]) (rest := [.long bf]) hE hml hK hI (c_Space_give l hl0 b0 D cA g20 q iw a9 b9 c9 e9 sh h24) cd_Space_give w426 w428 ws9 h24 rfl rfl rfl rfl hl.1 (Nat.le_of_ble_eq_true rfl) d_Box_addShares_122 ⟨by decide, by decide⟩ ⟨by decide, by decide⟩ (fun H locs hI => ?_)
                    refine W.eq (g2 := F0 m 125 ls [.int (gvA sh a9 c9), .long bf]) rfl ?_
                    refine lv_i2l (v := (gvA sh a9 c9).toInt64) hx hb d_Box_addShares_125 rfl ?_
                    refine lv_ladd hx hb d_Box_addShares_126 ?_
                    refine lv_lstore (lv' := [(4, .long (bf + ((gvA sh a9 c9).toInt64))), (7, .ref q), (8, .ref q), (0, .ref bx), (1, .int (b2i sh)), (2, .long gv), (6, .int (nI i))]) hx hb d_Box_addShares_127 hl (by decide) rfl (fun ls hl => ?_)
                    obtain ⟨v26, ev26⟩ : ∃ y : Int32, y = (nI i) + 1 := ⟨_, rfl⟩
                    refine lv_iinc (v := v26) (lv' := [(6, .int v26), (4, .long (bf + ((gvA sh a9 c9).toInt64))), (7, .ref q), (8, .ref q), (0, .ref bx), (1, .int (b2i sh)), (2, .long gv)]) hx hb d_Box_addShares_129 hl (k := 6) rfl (by rw [ev26]; rfl) (by decide) rfl (fun ls hl => ?_)
                    refine lv_goto (tgt := 49) hx hb d_Box_addShares_132 (by decide) ?_
                    exact ih (i + 1) (bf + ((gvA sh a9 c9).toInt64)) _ _ _ _ ls (by omega) h22 (fun z z1 => by rw [eg20, hv_up_ne _ _ z1]; exact hfo z z1) (by rw [← heq]; simp only [shareF, hiv, if_pos c114]) hI (by rw [← nI_1, ← ev26]; exact lv_sub hl [4, 5, 6, 1, 0] rfl)
        exact loop n 0 0 gp0 f _ _ ls (by omega) hpa (fun z _ => rfl) rfl hI (lv_sub hl [4, 3, 2, 1, 0] rfl)
    · skip
      refine lv_iconst (v := 1) hx hb d_Box_addShares_15 (by decide) ?_
      refine lv_goto (tgt := 20) hx hb d_Box_addShares_16 (by decide) ?_
      obtain ⟨sh, esh⟩ : ∃ z : Bool, z = true := ⟨_, rfl⟩
      refine W.eq (g2 := F0 m 20 ls [.int (b2i sh)]) (by rw [esh]; rfl) ?_
      refine lv_istore_n (lv' := [(1, .int (b2i sh)), (0, .ref bx)]) hx hb d_Box_addShares_20 rfl hl (by decide) rfl (fun ls hl => ?_)
      refine lv_aload_n hx hb d_Box_addShares_21 rfl (lv_at hl 1 rfl) ?_
      refine hv_get hE k_Box hI 11 (by decide) w351 hbx rfl d_Box_addShares_22 ?_
      refine lv_if_le (tgt := 37) hx hb d_Box_addShares_25 (by decide) (fun c25 => ?_) (fun c25 => ?_)
      · skip
        refine lv_aload_n hx hb d_Box_addShares_37 rfl (lv_at hl 1 rfl) ?_
        refine hv_get hE k_Box hI 8 (by decide) w345 hbx rfl d_Box_addShares_38 ?_
        refine lv_i2l (v := ex.toInt64) hx hb d_Box_addShares_41 rfl ?_
        obtain ⟨gv, egv⟩ : ∃ z : Int64, z = ex.toInt64 := ⟨_, rfl⟩
        refine W.eq (g2 := F0 m 42 ls [.long gv]) (by rw [egv]) ?_
        refine lv_lstore_n (lv' := [(2, .long gv), (1, .int (b2i sh)), (0, .ref bx)]) hx hb d_Box_addShares_42 rfl hl (by decide) rfl (fun ls hl => ?_)
        refine lv_lconst (v := 0) hx hb d_Box_addShares_43 (by decide) ?_
        refine lv_lstore (lv' := [(4, .long 0), (2, .long gv), (1, .int (b2i sh)), (0, .ref bx)]) hx hb d_Box_addShares_44 hl (by decide) rfl (fun ls hl => ?_)
        refine lv_iconst (v := 0) hx hb d_Box_addShares_46 (by decide) ?_
        refine lv_istore (lv' := [(6, .int 0), (4, .long 0), (2, .long gv), (1, .int (b2i sh)), (0, .ref bx)]) hx hb d_Box_addShares_47 hl (by decide) rfl (fun ls hl => ?_)
        have loop : ∀ (k i : Nat) (bf : Int64) (gp : Nat → Int32) (g : hv_M) (H : Heap) (locs : List Loc) (ls : Array Slot), i + k = n → g pa = some (.inl (cA 0, n, .inl gp)) → (∀ z, z ≠ pa → g z = f z) → shareF sh od to gv iv k i bf gp = shareF sh od to gv iv n 0 0 gp0 → hv_I D CL b0 g s.heap H locs → lv_has ls 9 [(0, .ref bx), (1, .int (b2i sh)), (2, .long gv), (4, .long bf), (6, .int (nI i))] → W p l e (RM 1 0 0) s m ([.ref bx] : List Value).toArray below meth c H locs (0) (0) (xh_MQ below (hv_Q b0 (Fa D cA) D CL (fun v g => v = none ∧ g = hv_up f pa (.inl (cA 0, n, .inl (addS ex od to ov iv n gp0)))) (NX)) s 0 0 (fun q => b0 ≤ q)) (F0 m 49 ls []) := by
          intro k
          induction k with
          | zero =>
            intro i bf gp g H locs ls hik hgp hfo heq hI hl
            have hgb : g bx = some (.inr (1, [.int bel, .ref ca, .ref pa, .int dp, .int al, .int w, .int h, .int d, .int ex, .int od, .int to, .int ov])) := by rw [hfo bx (hv_ne hbx hpa (by simp))]; exact hbx
            have hgc : g ca = some (.inl (cA 3, n, .inr (.inr (.inr (.inr gc))))) := by rw [hfo ca (hv_ne hca hpa (by simp))]; exact hca
            refine lv_iload hx hb d_Box_addShares_49 (lv_at hl 4 rfl) ?_
            refine lv_aload_n hx hb d_Box_addShares_51 rfl (lv_at hl 0 rfl) ?_
            refine hv_get hE k_Box hI 1 (by decide) w331 hgb rfl d_Box_addShares_52 ?_
            refine hv_alen hE hI 3 hgc rfl (z := nI n) rfl d_Box_addShares_55 ?_
            refine lv_icmp_ge (tgt := 135) hx hb d_Box_addShares_56 (by decide) (fun c56 => ?_) (fun c56 => ?_)
            · skip
              exact hv_vret hE hr hlocks hI hK (⟨rfl, by rw [addS, if_neg c4, show decide (ex < 0) = sh from esh ▸ decide_eq_true (Int32.not_le.mp c12), show (if 0 < ov then (-to).toInt64 else ex.toInt64) = gv from egv ▸ if_neg (Int32.not_lt.mpr c25), ← heq]; funext z; by_cases hz : z = pa; (rw [hz, hv_up_self]; exact hgp); (rw [hv_up_ne _ _ hz]; exact hfo z hz)⟩) (by decide) (by decide) d_Box_addShares_135
            · skip
              exact absurd (nI_le (by omega) (by omega)) c56
          | succ k ih =>
            intro i bf gp g H locs ls hik hgp hfo heq hI hl
            have hgb : g bx = some (.inr (1, [.int bel, .ref ca, .ref pa, .int dp, .int al, .int w, .int h, .int d, .int ex, .int od, .int to, .int ov])) := by rw [hfo bx (hv_ne hbx hpa (by simp))]; exact hbx
            have hgc : g ca = some (.inl (cA 3, n, .inr (.inr (.inr (.inr gc))))) := by rw [hfo ca (hv_ne hca hpa (by simp))]; exact hca
            obtain ⟨q, hq1, hq2⟩ := hit i (by omega)
            rcases hiv : iv i with ⟨t, iw, ih9, id9, inn, z9⟩ | ⟨iw, a9, b9, c9, e9⟩
            · rw [hiv] at hq2
              have hgq : g q = some (.inr (2, [.int t, .int iw, .int ih9, .int id9, va_rf inn, .int z9])) := by rw [hfo q (hv_ne hq2 hpa (by simp [itE]))]; exact hq2
              refine lv_iload hx hb d_Box_addShares_49 (lv_at hl 4 rfl) ?_
              refine lv_aload_n hx hb d_Box_addShares_51 rfl (lv_at hl 0 rfl) ?_
              refine hv_get hE k_Box hI 1 (by decide) w331 hgb rfl d_Box_addShares_52 ?_
              refine hv_alen hE hI 3 hgc rfl (z := nI n) rfl d_Box_addShares_55 ?_
              refine lv_icmp_ge (tgt := 135) hx hb d_Box_addShares_56 (by decide) (fun c56 => ?_) (fun c56 => ?_)
              · skip
                exact absurd c56 (nI_ge (by omega) (by omega))
              · skip
                refine lv_aload_n hx hb d_Box_addShares_59 rfl (lv_at hl 0 rfl) ?_
                refine hv_get hE k_Box hI 2 (by decide) w333 hgb rfl d_Box_addShares_60 ?_
                refine lv_iload hx hb d_Box_addShares_63 (lv_at hl 4 rfl) ?_
                refine lv_dup2_11 hx hb d_Box_addShares_65 rfl rfl ?_
                refine hv_iald hE hI 0 hgp rfl (pk_in i n (by omega) rfl (by omega)) d_Box_addShares_66 ?_
                rw [nI_cl (by omega)]
                refine lv_lload hx hb d_Box_addShares_67 (lv_at hl 3 rfl) ?_
                refine lv_lload_n hx hb d_Box_addShares_69 rfl (lv_at hl 2 rfl) ?_
                refine lv_lmul hx hb d_Box_addShares_70 ?_
                refine lv_aload_n hx hb d_Box_addShares_71 rfl (lv_at hl 0 rfl) ?_
                refine hv_get hE k_Box hI 10 (by decide) w349 hgb rfl d_Box_addShares_72 ?_
                refine hv_SNp (As := [.long (bf * gv), .int to]) (rest := [.int (gp i), .int (nI i), .ref pa]) hE hml hK hI (c_BP_dividedToNearest l hl0 b0 D cA g (bf * gv) to (two_ne c4)) cd_BP_dividedToNearest w442 w443 rfl rfl rfl hl.1 (Nat.le_of_ble_eq_true rfl) d_Box_addShares_75 ⟨by decide, by decide⟩ ⟨by decide, by decide⟩ (fun H locs hI => ?_)
                refine W.eq (g2 := F0 m 78 ls [.int (dtn (bf * gv) to), .int (gp i), .int (nI i), .ref pa]) rfl ?_
                refine lv_iadd hx hb d_Box_addShares_78 ?_
                refine hv_iast hE hI 0 hgp rfl (pk_in i n (by omega) rfl (by omega)) d_Box_addShares_79 (fun H locs hI => ?_)
                rw [nI_cl (by omega)] at hI
                obtain ⟨g27, eg27⟩ : ∃ z : hv_M, z = hv_up g pa (.inl (cA 0, n, .inl (upd gp i ((gp i) + (dtn (bf * gv) to))))) := ⟨_, rfl⟩
                have hI : hv_I D CL b0 g27 s.heap H locs := by rw [eg27]; exact hI
                have h28 : g27 bx = some (.inr (1, [.int bel, .ref ca, .ref pa, .int dp, .int al, .int w, .int h, .int d, .int ex, .int od, .int to, .int ov])) := by rw [eg27]; rw [hv_up_ne _ _ (hv_ne hgb hgp (by simp))]; exact hgb
                have h29 : g27 pa = some (.inl (cA 0, n, .inl (upd gp i ((gp i) + (dtn (bf * gv) to))))) := by rw [eg27]; exact hv_up_self _ _ _
                have h30 : g27 ca = some (.inl (cA 3, n, .inr (.inr (.inr (.inr gc))))) := by rw [eg27]; rw [hv_up_ne _ _ (hv_ne hgc hgp (by simp))]; exact hgc
                have h31 : g27 q = some (.inr (2, [.int t, .int iw, .int ih9, .int id9, va_rf inn, .int z9])) := by rw [eg27]; rw [hv_up_ne _ _ (hv_ne hgq hgp (by simp))]; exact hgq
                refine lv_aload_n hx hb d_Box_addShares_80 rfl (lv_at hl 0 rfl) ?_
                refine hv_get hE k_Box hI 1 (by decide) w331 h28 rfl d_Box_addShares_81 ?_
                refine lv_iload hx hb d_Box_addShares_84 (lv_at hl 4 rfl) ?_
                refine hv_aald hE hI 3 h30 rfl (pk_in i n (by omega) rfl (by omega)) d_Box_addShares_86 ?_
                rw [nI_cl (by omega)]
                rw [hq1]
                refine W.eq (g2 := F0 m 87 ls [.ref q]) rfl ?_
                refine lv_astore (lv' := [(8, .ref q), (0, .ref bx), (1, .int (b2i sh)), (2, .long gv), (4, .long bf), (6, .int (nI i))]) hx hb d_Box_addShares_87 hl (by decide) rfl (fun ls hl => ?_)
                refine lv_aload hx hb d_Box_addShares_89 (lv_at hl 0 rfl) ?_
                refine hv_instN hE hI hK h31 rfl (nm := "BoxPacker$Space") (by decide) w413 d_Box_addShares_91 ?_
                refine lv_if_eq (tgt := 129) hx hb d_Box_addShares_94 (by decide) (fun c94 => ?_) (fun c94 => ?_)
                · skip
                  obtain ⟨v32, ev32⟩ : ∃ y : Int32, y = (nI i) + 1 := ⟨_, rfl⟩
                  refine lv_iinc (v := v32) (lv' := [(6, .int v32), (8, .ref q), (0, .ref bx), (1, .int (b2i sh)), (2, .long gv), (4, .long bf)]) hx hb d_Box_addShares_129 hl (k := 5) rfl (by rw [ev32]; rfl) (by decide) rfl (fun ls hl => ?_)
                  refine lv_goto (tgt := 49) hx hb d_Box_addShares_132 (by decide) ?_
                  exact ih (i + 1) bf _ _ _ _ ls (by omega) h29 (fun z z1 => by rw [eg27, hv_up_ne _ _ z1]; exact hfo z z1) (by rw [← heq]; simp only [shareF, hiv]) hI (by rw [← nI_1, ← ev32]; exact lv_sub hl [2, 3, 4, 5, 0] rfl)
                · skip
                  exact absurd rfl c94
            · rw [hiv] at hq2
              have hgq : g q = some (.inr (3, [.int iw, .int a9, .int b9, .int c9, .int e9])) := by rw [hfo q (hv_ne hq2 hpa (by simp [itE]))]; exact hq2
              refine lv_iload hx hb d_Box_addShares_49 (lv_at hl 4 rfl) ?_
              refine lv_aload_n hx hb d_Box_addShares_51 rfl (lv_at hl 0 rfl) ?_
              refine hv_get hE k_Box hI 1 (by decide) w331 hgb rfl d_Box_addShares_52 ?_
              refine hv_alen hE hI 3 hgc rfl (z := nI n) rfl d_Box_addShares_55 ?_
              refine lv_icmp_ge (tgt := 135) hx hb d_Box_addShares_56 (by decide) (fun c56 => ?_) (fun c56 => ?_)
              · skip
                exact absurd c56 (nI_ge (by omega) (by omega))
              · skip
                refine lv_aload_n hx hb d_Box_addShares_59 rfl (lv_at hl 0 rfl) ?_
                refine hv_get hE k_Box hI 2 (by decide) w333 hgb rfl d_Box_addShares_60 ?_
                refine lv_iload hx hb d_Box_addShares_63 (lv_at hl 4 rfl) ?_
                refine lv_dup2_11 hx hb d_Box_addShares_65 rfl rfl ?_
                refine hv_iald hE hI 0 hgp rfl (pk_in i n (by omega) rfl (by omega)) d_Box_addShares_66 ?_
                rw [nI_cl (by omega)]
                refine lv_lload hx hb d_Box_addShares_67 (lv_at hl 3 rfl) ?_
                refine lv_lload_n hx hb d_Box_addShares_69 rfl (lv_at hl 2 rfl) ?_
                refine lv_lmul hx hb d_Box_addShares_70 ?_
                refine lv_aload_n hx hb d_Box_addShares_71 rfl (lv_at hl 0 rfl) ?_
                refine hv_get hE k_Box hI 10 (by decide) w349 hgb rfl d_Box_addShares_72 ?_
                refine hv_SNp (As := [.long (bf * gv), .int to]) (rest := [.int (gp i), .int (nI i), .ref pa]) hE hml hK hI (c_BP_dividedToNearest l hl0 b0 D cA g (bf * gv) to (two_ne c4)) cd_BP_dividedToNearest w442 w443 rfl rfl rfl hl.1 (Nat.le_of_ble_eq_true rfl) d_Box_addShares_75 ⟨by decide, by decide⟩ ⟨by decide, by decide⟩ (fun H locs hI => ?_)
                refine W.eq (g2 := F0 m 78 ls [.int (dtn (bf * gv) to), .int (gp i), .int (nI i), .ref pa]) rfl ?_
                refine lv_iadd hx hb d_Box_addShares_78 ?_
                refine hv_iast hE hI 0 hgp rfl (pk_in i n (by omega) rfl (by omega)) d_Box_addShares_79 (fun H locs hI => ?_)
                rw [nI_cl (by omega)] at hI
                obtain ⟨g33, eg33⟩ : ∃ z : hv_M, z = hv_up g pa (.inl (cA 0, n, .inl (upd gp i ((gp i) + (dtn (bf * gv) to))))) := ⟨_, rfl⟩
                have hI : hv_I D CL b0 g33 s.heap H locs := by rw [eg33]; exact hI
                have h34 : g33 bx = some (.inr (1, [.int bel, .ref ca, .ref pa, .int dp, .int al, .int w, .int h, .int d, .int ex, .int od, .int to, .int ov])) := by rw [eg33]; rw [hv_up_ne _ _ (hv_ne hgb hgp (by simp))]; exact hgb
                have h35 : g33 pa = some (.inl (cA 0, n, .inl (upd gp i ((gp i) + (dtn (bf * gv) to))))) := by rw [eg33]; exact hv_up_self _ _ _
                have h36 : g33 ca = some (.inl (cA 3, n, .inr (.inr (.inr (.inr gc))))) := by rw [eg33]; rw [hv_up_ne _ _ (hv_ne hgc hgp (by simp))]; exact hgc
                have h37 : g33 q = some (.inr (3, [.int iw, .int a9, .int b9, .int c9, .int e9])) := by rw [eg33]; rw [hv_up_ne _ _ (hv_ne hgq hgp (by simp))]; exact hgq
                refine lv_aload_n hx hb d_Box_addShares_80 rfl (lv_at hl 0 rfl) ?_
                refine hv_get hE k_Box hI 1 (by decide) w331 h34 rfl d_Box_addShares_81 ?_
                refine lv_iload hx hb d_Box_addShares_84 (lv_at hl 4 rfl) ?_
                refine hv_aald hE hI 3 h36 rfl (pk_in i n (by omega) rfl (by omega)) d_Box_addShares_86 ?_
                rw [nI_cl (by omega)]
                rw [hq1]
                refine W.eq (g2 := F0 m 87 ls [.ref q]) rfl ?_
                refine lv_astore (lv' := [(8, .ref q), (0, .ref bx), (1, .int (b2i sh)), (2, .long gv), (4, .long bf), (6, .int (nI i))]) hx hb d_Box_addShares_87 hl (by decide) rfl (fun ls hl => ?_)
                refine lv_aload hx hb d_Box_addShares_89 (lv_at hl 0 rfl) ?_
                refine hv_instS hE hI h37 rfl w413 d_Box_addShares_91 ?_
                refine lv_if_eq (tgt := 129) hx hb d_Box_addShares_94 (by decide) (fun c94 => ?_) (fun c94 => ?_)
                · skip
                  exact absurd c94 (by decide)
                · skip
                  refine lv_aload hx hb d_Box_addShares_97 (lv_at hl 0 rfl) ?_
                  refine hv_castS hE hI h37 rfl w413 d_Box_addShares_99 ?_
                  refine lv_astore (lv' := [(7, .ref q), (8, .ref q), (0, .ref bx), (1, .int (b2i sh)), (2, .long gv), (4, .long bf), (6, .int (nI i))]) hx hb d_Box_addShares_102 hl (by decide) rfl (fun ls hl => ?_)
                  refine lv_aload hx hb d_Box_addShares_104 (lv_at hl 0 rfl) ?_
                  refine lv_iload_n hx hb d_Box_addShares_106 rfl (lv_at hl 3 rfl) ?_
                  refine hv_VNp (As := [.int (b2i sh)]) (rest := []) hE hml hK hI (c_Space_giveOrder l hl0 b0 D cA g33 q iw a9 b9 c9 e9 sh h37) cd_Space_giveOrder w422 w424 ws8 h37 rfl rfl rfl rfl hl.1 (Nat.le_of_ble_eq_true rfl) d_Box_addShares_107 ⟨by decide, by decide⟩ ⟨by decide, by decide⟩ (fun H locs hI => ?_)
                  refine W.eq (g2 := F0 m 110 ls [.int (gvO sh b9 e9)]) rfl ?_
                  refine lv_aload_n hx hb d_Box_addShares_110 rfl (lv_at hl 2 rfl) ?_
                  refine hv_get hE k_Box hI 9 (by decide) w347 h34 rfl d_Box_addShares_111 ?_
                  refine lv_icmp_ne (tgt := 129) hx hb d_Box_addShares_114 (by decide) (fun c114 => ?_) (fun c114 => ?_)
                  · skip
                    obtain ⟨v38, ev38⟩ : ∃ y : Int32, y = (nI i) + 1 := ⟨_, rfl⟩
                    refine lv_iinc (v := v38) (lv' := [(6, .int v38), (7, .ref q), (8, .ref q), (0, .ref bx), (1, .int (b2i sh)), (2, .long gv), (4, .long bf)]) hx hb d_Box_addShares_129 hl (k := 6) rfl (by rw [ev38]; rfl) (by decide) rfl (fun ls hl => ?_)
                    refine lv_goto (tgt := 49) hx hb d_Box_addShares_132 (by decide) ?_
                    exact ih (i + 1) bf _ _ _ _ ls (by omega) h35 (fun z z1 => by rw [eg33, hv_up_ne _ _ z1]; exact hfo z z1) (by rw [← heq]; simp only [shareF, hiv, if_neg c114]) hI (by rw [← nI_1, ← ev38]; exact lv_sub hl [3, 4, 5, 6, 0] rfl)
                  · skip
                    refine lv_lload hx hb d_Box_addShares_117 (lv_at hl 5 rfl) ?_
                    refine lv_aload hx hb d_Box_addShares_119 (lv_at hl 0 rfl) ?_
                    refine lv_iload_n hx hb d_Box_addShares_121 rfl (lv_at hl 3 rfl) ?_
                    refine hv_VNp (As := [.int (b2i sh)]) (rest := [.long bf]) hE hml hK hI (c_Space_give l hl0 b0 D cA g33 q iw a9 b9 c9 e9 sh h37) cd_Space_give w426 w428 ws9 h37 rfl rfl rfl rfl hl.1 (Nat.le_of_ble_eq_true rfl) d_Box_addShares_122 ⟨by decide, by decide⟩ ⟨by decide, by decide⟩ (fun H locs hI => ?_)
                    refine W.eq (g2 := F0 m 125 ls [.int (gvA sh a9 c9), .long bf]) rfl ?_
                    refine lv_i2l (v := (gvA sh a9 c9).toInt64) hx hb d_Box_addShares_125 rfl ?_
                    refine lv_ladd hx hb d_Box_addShares_126 ?_
                    refine lv_lstore (lv' := [(4, .long (bf + ((gvA sh a9 c9).toInt64))), (7, .ref q), (8, .ref q), (0, .ref bx), (1, .int (b2i sh)), (2, .long gv), (6, .int (nI i))]) hx hb d_Box_addShares_127 hl (by decide) rfl (fun ls hl => ?_)
                    obtain ⟨v39, ev39⟩ : ∃ y : Int32, y = (nI i) + 1 := ⟨_, rfl⟩
                    refine lv_iinc (v := v39) (lv' := [(6, .int v39), (4, .long (bf + ((gvA sh a9 c9).toInt64))), (7, .ref q), (8, .ref q), (0, .ref bx), (1, .int (b2i sh)), (2, .long gv)]) hx hb d_Box_addShares_129 hl (k := 6) rfl (by rw [ev39]; rfl) (by decide) rfl (fun ls hl => ?_)
                    refine lv_goto (tgt := 49) hx hb d_Box_addShares_132 (by decide) ?_
                    exact ih (i + 1) (bf + ((gvA sh a9 c9).toInt64)) _ _ _ _ ls (by omega) h35 (fun z z1 => by rw [eg33, hv_up_ne _ _ z1]; exact hfo z z1) (by rw [← heq]; simp only [shareF, hiv, if_pos c114]) hI (by rw [← nI_1, ← ev39]; exact lv_sub hl [4, 5, 6, 1, 0] rfl)
        exact loop n 0 0 gp0 f _ _ ls (by omega) hpa (fun z _ => rfl) rfl hI (lv_sub hl [4, 3, 2, 1, 0] rfl)
      · skip
        refine lv_aload_n hx hb d_Box_addShares_28 rfl (lv_at hl 1 rfl) ?_
        refine hv_get hE k_Box hI 10 (by decide) w349 hbx rfl d_Box_addShares_29 ?_
        refine lv_ineg hx hb d_Box_addShares_32 ?_
        refine lv_i2l (v := (-to).toInt64) hx hb d_Box_addShares_33 rfl ?_
        refine lv_goto (tgt := 42) hx hb d_Box_addShares_34 (by decide) ?_
        obtain ⟨gv, egv⟩ : ∃ z : Int64, z = (-to).toInt64 := ⟨_, rfl⟩
        refine W.eq (g2 := F0 m 42 ls [.long gv]) (by rw [egv]) ?_
        refine lv_lstore_n (lv' := [(2, .long gv), (1, .int (b2i sh)), (0, .ref bx)]) hx hb d_Box_addShares_42 rfl hl (by decide) rfl (fun ls hl => ?_)
        refine lv_lconst (v := 0) hx hb d_Box_addShares_43 (by decide) ?_
        refine lv_lstore (lv' := [(4, .long 0), (2, .long gv), (1, .int (b2i sh)), (0, .ref bx)]) hx hb d_Box_addShares_44 hl (by decide) rfl (fun ls hl => ?_)
        refine lv_iconst (v := 0) hx hb d_Box_addShares_46 (by decide) ?_
        refine lv_istore (lv' := [(6, .int 0), (4, .long 0), (2, .long gv), (1, .int (b2i sh)), (0, .ref bx)]) hx hb d_Box_addShares_47 hl (by decide) rfl (fun ls hl => ?_)
        have loop : ∀ (k i : Nat) (bf : Int64) (gp : Nat → Int32) (g : hv_M) (H : Heap) (locs : List Loc) (ls : Array Slot), i + k = n → g pa = some (.inl (cA 0, n, .inl gp)) → (∀ z, z ≠ pa → g z = f z) → shareF sh od to gv iv k i bf gp = shareF sh od to gv iv n 0 0 gp0 → hv_I D CL b0 g s.heap H locs → lv_has ls 9 [(0, .ref bx), (1, .int (b2i sh)), (2, .long gv), (4, .long bf), (6, .int (nI i))] → W p l e (RM 1 0 0) s m ([.ref bx] : List Value).toArray below meth c H locs (0) (0) (xh_MQ below (hv_Q b0 (Fa D cA) D CL (fun v g => v = none ∧ g = hv_up f pa (.inl (cA 0, n, .inl (addS ex od to ov iv n gp0)))) (NX)) s 0 0 (fun q => b0 ≤ q)) (F0 m 49 ls []) := by
          intro k
          induction k with
          | zero =>
            intro i bf gp g H locs ls hik hgp hfo heq hI hl
            have hgb : g bx = some (.inr (1, [.int bel, .ref ca, .ref pa, .int dp, .int al, .int w, .int h, .int d, .int ex, .int od, .int to, .int ov])) := by rw [hfo bx (hv_ne hbx hpa (by simp))]; exact hbx
            have hgc : g ca = some (.inl (cA 3, n, .inr (.inr (.inr (.inr gc))))) := by rw [hfo ca (hv_ne hca hpa (by simp))]; exact hca
            refine lv_iload hx hb d_Box_addShares_49 (lv_at hl 4 rfl) ?_
            refine lv_aload_n hx hb d_Box_addShares_51 rfl (lv_at hl 0 rfl) ?_
            refine hv_get hE k_Box hI 1 (by decide) w331 hgb rfl d_Box_addShares_52 ?_
            refine hv_alen hE hI 3 hgc rfl (z := nI n) rfl d_Box_addShares_55 ?_
            refine lv_icmp_ge (tgt := 135) hx hb d_Box_addShares_56 (by decide) (fun c56 => ?_) (fun c56 => ?_)
            · skip
              exact hv_vret hE hr hlocks hI hK (⟨rfl, by rw [addS, if_neg c4, show decide (ex < 0) = sh from esh ▸ decide_eq_true (Int32.not_le.mp c12), show (if 0 < ov then (-to).toInt64 else ex.toInt64) = gv from egv ▸ if_pos (Int32.not_le.mp c25), ← heq]; funext z; by_cases hz : z = pa; (rw [hz, hv_up_self]; exact hgp); (rw [hv_up_ne _ _ hz]; exact hfo z hz)⟩) (by decide) (by decide) d_Box_addShares_135
            · skip
              exact absurd (nI_le (by omega) (by omega)) c56
          | succ k ih =>
            intro i bf gp g H locs ls hik hgp hfo heq hI hl
            have hgb : g bx = some (.inr (1, [.int bel, .ref ca, .ref pa, .int dp, .int al, .int w, .int h, .int d, .int ex, .int od, .int to, .int ov])) := by rw [hfo bx (hv_ne hbx hpa (by simp))]; exact hbx
            have hgc : g ca = some (.inl (cA 3, n, .inr (.inr (.inr (.inr gc))))) := by rw [hfo ca (hv_ne hca hpa (by simp))]; exact hca
            obtain ⟨q, hq1, hq2⟩ := hit i (by omega)
            rcases hiv : iv i with ⟨t, iw, ih9, id9, inn, z9⟩ | ⟨iw, a9, b9, c9, e9⟩
            · rw [hiv] at hq2
              have hgq : g q = some (.inr (2, [.int t, .int iw, .int ih9, .int id9, va_rf inn, .int z9])) := by rw [hfo q (hv_ne hq2 hpa (by simp [itE]))]; exact hq2
              refine lv_iload hx hb d_Box_addShares_49 (lv_at hl 4 rfl) ?_
              refine lv_aload_n hx hb d_Box_addShares_51 rfl (lv_at hl 0 rfl) ?_
              refine hv_get hE k_Box hI 1 (by decide) w331 hgb rfl d_Box_addShares_52 ?_
              refine hv_alen hE hI 3 hgc rfl (z := nI n) rfl d_Box_addShares_55 ?_
              refine lv_icmp_ge (tgt := 135) hx hb d_Box_addShares_56 (by decide) (fun c56 => ?_) (fun c56 => ?_)
              · skip
                exact absurd c56 (nI_ge (by omega) (by omega))
              · skip
                refine lv_aload_n hx hb d_Box_addShares_59 rfl (lv_at hl 0 rfl) ?_
                refine hv_get hE k_Box hI 2 (by decide) w333 hgb rfl d_Box_addShares_60 ?_
                refine lv_iload hx hb d_Box_addShares_63 (lv_at hl 4 rfl) ?_
                refine lv_dup2_11 hx hb d_Box_addShares_65 rfl rfl ?_
                refine hv_iald hE hI 0 hgp rfl (pk_in i n (by omega) rfl (by omega)) d_Box_addShares_66 ?_
                rw [nI_cl (by omega)]
                refine lv_lload hx hb d_Box_addShares_67 (lv_at hl 3 rfl) ?_
                refine lv_lload_n hx hb d_Box_addShares_69 rfl (lv_at hl 2 rfl) ?_
                refine lv_lmul hx hb d_Box_addShares_70 ?_
                refine lv_aload_n hx hb d_Box_addShares_71 rfl (lv_at hl 0 rfl) ?_
                refine hv_get hE k_Box hI 10 (by decide) w349 hgb rfl d_Box_addShares_72 ?_
                refine hv_SNp (As := [.long (bf * gv), .int to]) (rest := [.int (gp i), .int (nI i), .ref pa]) hE hml hK hI (c_BP_dividedToNearest l hl0 b0 D cA g (bf * gv) to (two_ne c4)) cd_BP_dividedToNearest w442 w443 rfl rfl rfl hl.1 (Nat.le_of_ble_eq_true rfl) d_Box_addShares_75 ⟨by decide, by decide⟩ ⟨by decide, by decide⟩ (fun H locs hI => ?_)
                refine W.eq (g2 := F0 m 78 ls [.int (dtn (bf * gv) to), .int (gp i), .int (nI i), .ref pa]) rfl ?_
                refine lv_iadd hx hb d_Box_addShares_78 ?_
                refine hv_iast hE hI 0 hgp rfl (pk_in i n (by omega) rfl (by omega)) d_Box_addShares_79 (fun H locs hI => ?_)
                rw [nI_cl (by omega)] at hI
                obtain ⟨g40, eg40⟩ : ∃ z : hv_M, z = hv_up g pa (.inl (cA 0, n, .inl (upd gp i ((gp i) + (dtn (bf * gv) to))))) := ⟨_, rfl⟩
                have hI : hv_I D CL b0 g40 s.heap H locs := by rw [eg40]; exact hI
                have h41 : g40 bx = some (.inr (1, [.int bel, .ref ca, .ref pa, .int dp, .int al, .int w, .int h, .int d, .int ex, .int od, .int to, .int ov])) := by rw [eg40]; rw [hv_up_ne _ _ (hv_ne hgb hgp (by simp))]; exact hgb
                have h42 : g40 pa = some (.inl (cA 0, n, .inl (upd gp i ((gp i) + (dtn (bf * gv) to))))) := by rw [eg40]; exact hv_up_self _ _ _
                have h43 : g40 ca = some (.inl (cA 3, n, .inr (.inr (.inr (.inr gc))))) := by rw [eg40]; rw [hv_up_ne _ _ (hv_ne hgc hgp (by simp))]; exact hgc
                have h44 : g40 q = some (.inr (2, [.int t, .int iw, .int ih9, .int id9, va_rf inn, .int z9])) := by rw [eg40]; rw [hv_up_ne _ _ (hv_ne hgq hgp (by simp))]; exact hgq
                refine lv_aload_n hx hb d_Box_addShares_80 rfl (lv_at hl 0 rfl) ?_
                refine hv_get hE k_Box hI 1 (by decide) w331 h41 rfl d_Box_addShares_81 ?_
                refine lv_iload hx hb d_Box_addShares_84 (lv_at hl 4 rfl) ?_
                refine hv_aald hE hI 3 h43 rfl (pk_in i n (by omega) rfl (by omega)) d_Box_addShares_86 ?_
                rw [nI_cl (by omega)]
                rw [hq1]
                refine W.eq (g2 := F0 m 87 ls [.ref q]) rfl ?_
                refine lv_astore (lv' := [(8, .ref q), (0, .ref bx), (1, .int (b2i sh)), (2, .long gv), (4, .long bf), (6, .int (nI i))]) hx hb d_Box_addShares_87 hl (by decide) rfl (fun ls hl => ?_)
                refine lv_aload hx hb d_Box_addShares_89 (lv_at hl 0 rfl) ?_
                refine hv_instN hE hI hK h44 rfl (nm := "BoxPacker$Space") (by decide) w413 d_Box_addShares_91 ?_
                refine lv_if_eq (tgt := 129) hx hb d_Box_addShares_94 (by decide) (fun c94 => ?_) (fun c94 => ?_)
                · skip
                  obtain ⟨v45, ev45⟩ : ∃ y : Int32, y = (nI i) + 1 := ⟨_, rfl⟩
                  refine lv_iinc (v := v45) (lv' := [(6, .int v45), (8, .ref q), (0, .ref bx), (1, .int (b2i sh)), (2, .long gv), (4, .long bf)]) hx hb d_Box_addShares_129 hl (k := 5) rfl (by rw [ev45]; rfl) (by decide) rfl (fun ls hl => ?_)
                  refine lv_goto (tgt := 49) hx hb d_Box_addShares_132 (by decide) ?_
                  exact ih (i + 1) bf _ _ _ _ ls (by omega) h42 (fun z z1 => by rw [eg40, hv_up_ne _ _ z1]; exact hfo z z1) (by rw [← heq]; simp only [shareF, hiv]) hI (by rw [← nI_1, ← ev45]; exact lv_sub hl [2, 3, 4, 5, 0] rfl)
                · skip
                  exact absurd rfl c94
            · rw [hiv] at hq2
              have hgq : g q = some (.inr (3, [.int iw, .int a9, .int b9, .int c9, .int e9])) := by rw [hfo q (hv_ne hq2 hpa (by simp [itE]))]; exact hq2
              refine lv_iload hx hb d_Box_addShares_49 (lv_at hl 4 rfl) ?_
              refine lv_aload_n hx hb d_Box_addShares_51 rfl (lv_at hl 0 rfl) ?_
              refine hv_get hE k_Box hI 1 (by decide) w331 hgb rfl d_Box_addShares_52 ?_
              refine hv_alen hE hI 3 hgc rfl (z := nI n) rfl d_Box_addShares_55 ?_
              refine lv_icmp_ge (tgt := 135) hx hb d_Box_addShares_56 (by decide) (fun c56 => ?_) (fun c56 => ?_)
              · skip
                exact absurd c56 (nI_ge (by omega) (by omega))
              · skip
                refine lv_aload_n hx hb d_Box_addShares_59 rfl (lv_at hl 0 rfl) ?_
                refine hv_get hE k_Box hI 2 (by decide) w333 hgb rfl d_Box_addShares_60 ?_
                refine lv_iload hx hb d_Box_addShares_63 (lv_at hl 4 rfl) ?_
                refine lv_dup2_11 hx hb d_Box_addShares_65 rfl rfl ?_
                refine hv_iald hE hI 0 hgp rfl (pk_in i n (by omega) rfl (by omega)) d_Box_addShares_66 ?_
                rw [nI_cl (by omega)]
                refine lv_lload hx hb d_Box_addShares_67 (lv_at hl 3 rfl) ?_
                refine lv_lload_n hx hb d_Box_addShares_69 rfl (lv_at hl 2 rfl) ?_
                refine lv_lmul hx hb d_Box_addShares_70 ?_
                refine lv_aload_n hx hb d_Box_addShares_71 rfl (lv_at hl 0 rfl) ?_
                refine hv_get hE k_Box hI 10 (by decide) w349 hgb rfl d_Box_addShares_72 ?_
                refine hv_SNp (As := [.long (bf * gv), .int to]) (rest := [.int (gp i), .int (nI i), .ref pa]) hE hml hK hI (c_BP_dividedToNearest l hl0 b0 D cA g (bf * gv) to (two_ne c4)) cd_BP_dividedToNearest w442 w443 rfl rfl rfl hl.1 (Nat.le_of_ble_eq_true rfl) d_Box_addShares_75 ⟨by decide, by decide⟩ ⟨by decide, by decide⟩ (fun H locs hI => ?_)
                refine W.eq (g2 := F0 m 78 ls [.int (dtn (bf * gv) to), .int (gp i), .int (nI i), .ref pa]) rfl ?_
                refine lv_iadd hx hb d_Box_addShares_78 ?_
                refine hv_iast hE hI 0 hgp rfl (pk_in i n (by omega) rfl (by omega)) d_Box_addShares_79 (fun H locs hI => ?_)
                rw [nI_cl (by omega)] at hI
                obtain ⟨g46, eg46⟩ : ∃ z : hv_M, z = hv_up g pa (.inl (cA 0, n, .inl (upd gp i ((gp i) + (dtn (bf * gv) to))))) := ⟨_, rfl⟩
                have hI : hv_I D CL b0 g46 s.heap H locs := by rw [eg46]; exact hI
                have h47 : g46 bx = some (.inr (1, [.int bel, .ref ca, .ref pa, .int dp, .int al, .int w, .int h, .int d, .int ex, .int od, .int to, .int ov])) := by rw [eg46]; rw [hv_up_ne _ _ (hv_ne hgb hgp (by simp))]; exact hgb
                have h48 : g46 pa = some (.inl (cA 0, n, .inl (upd gp i ((gp i) + (dtn (bf * gv) to))))) := by rw [eg46]; exact hv_up_self _ _ _
                have h49 : g46 ca = some (.inl (cA 3, n, .inr (.inr (.inr (.inr gc))))) := by rw [eg46]; rw [hv_up_ne _ _ (hv_ne hgc hgp (by simp))]; exact hgc
                have h50 : g46 q = some (.inr (3, [.int iw, .int a9, .int b9, .int c9, .int e9])) := by rw [eg46]; rw [hv_up_ne _ _ (hv_ne hgq hgp (by simp))]; exact hgq
                refine lv_aload_n hx hb d_Box_addShares_80 rfl (lv_at hl 0 rfl) ?_
                refine hv_get hE k_Box hI 1 (by decide) w331 h47 rfl d_Box_addShares_81 ?_
                refine lv_iload hx hb d_Box_addShares_84 (lv_at hl 4 rfl) ?_
                refine hv_aald hE hI 3 h49 rfl (pk_in i n (by omega) rfl (by omega)) d_Box_addShares_86 ?_
                rw [nI_cl (by omega)]
                rw [hq1]
                refine W.eq (g2 := F0 m 87 ls [.ref q]) rfl ?_
                refine lv_astore (lv' := [(8, .ref q), (0, .ref bx), (1, .int (b2i sh)), (2, .long gv), (4, .long bf), (6, .int (nI i))]) hx hb d_Box_addShares_87 hl (by decide) rfl (fun ls hl => ?_)
                refine lv_aload hx hb d_Box_addShares_89 (lv_at hl 0 rfl) ?_
                refine hv_instS hE hI h50 rfl w413 d_Box_addShares_91 ?_
                refine lv_if_eq (tgt := 129) hx hb d_Box_addShares_94 (by decide) (fun c94 => ?_) (fun c94 => ?_)
                · skip
                  exact absurd c94 (by decide)
                · skip
                  refine lv_aload hx hb d_Box_addShares_97 (lv_at hl 0 rfl) ?_
                  refine hv_castS hE hI h50 rfl w413 d_Box_addShares_99 ?_
                  refine lv_astore (lv' := [(7, .ref q), (8, .ref q), (0, .ref bx), (1, .int (b2i sh)), (2, .long gv), (4, .long bf), (6, .int (nI i))]) hx hb d_Box_addShares_102 hl (by decide) rfl (fun ls hl => ?_)
                  refine lv_aload hx hb d_Box_addShares_104 (lv_at hl 0 rfl) ?_
                  refine lv_iload_n hx hb d_Box_addShares_106 rfl (lv_at hl 3 rfl) ?_
                  refine hv_VNp (As := [.int (b2i sh)]) (rest := []) hE hml hK hI (c_Space_giveOrder l hl0 b0 D cA g46 q iw a9 b9 c9 e9 sh h50) cd_Space_giveOrder w422 w424 ws8 h50 rfl rfl rfl rfl hl.1 (Nat.le_of_ble_eq_true rfl) d_Box_addShares_107 ⟨by decide, by decide⟩ ⟨by decide, by decide⟩ (fun H locs hI => ?_)
                  refine W.eq (g2 := F0 m 110 ls [.int (gvO sh b9 e9)]) rfl ?_
                  refine lv_aload_n hx hb d_Box_addShares_110 rfl (lv_at hl 2 rfl) ?_
                  refine hv_get hE k_Box hI 9 (by decide) w347 h47 rfl d_Box_addShares_111 ?_
                  refine lv_icmp_ne (tgt := 129) hx hb d_Box_addShares_114 (by decide) (fun c114 => ?_) (fun c114 => ?_)
                  · skip
                    obtain ⟨v51, ev51⟩ : ∃ y : Int32, y = (nI i) + 1 := ⟨_, rfl⟩
                    refine lv_iinc (v := v51) (lv' := [(6, .int v51), (7, .ref q), (8, .ref q), (0, .ref bx), (1, .int (b2i sh)), (2, .long gv), (4, .long bf)]) hx hb d_Box_addShares_129 hl (k := 6) rfl (by rw [ev51]; rfl) (by decide) rfl (fun ls hl => ?_)
                    refine lv_goto (tgt := 49) hx hb d_Box_addShares_132 (by decide) ?_
                    exact ih (i + 1) bf _ _ _ _ ls (by omega) h48 (fun z z1 => by rw [eg46, hv_up_ne _ _ z1]; exact hfo z z1) (by rw [← heq]; simp only [shareF, hiv, if_neg c114]) hI (by rw [← nI_1, ← ev51]; exact lv_sub hl [3, 4, 5, 6, 0] rfl)
                  · skip
                    refine lv_lload hx hb d_Box_addShares_117 (lv_at hl 5 rfl) ?_
                    refine lv_aload hx hb d_Box_addShares_119 (lv_at hl 0 rfl) ?_
                    refine lv_iload_n hx hb d_Box_addShares_121 rfl (lv_at hl 3 rfl) ?_
                    refine hv_VNp (As := [.int (b2i sh)]) (rest := [.long bf]) hE hml hK hI (c_Space_give l hl0 b0 D cA g46 q iw a9 b9 c9 e9 sh h50) cd_Space_give w426 w428 ws9 h50 rfl rfl rfl rfl hl.1 (Nat.le_of_ble_eq_true rfl) d_Box_addShares_122 ⟨by decide, by decide⟩ ⟨by decide, by decide⟩ (fun H locs hI => ?_)
                    refine W.eq (g2 := F0 m 125 ls [.int (gvA sh a9 c9), .long bf]) rfl ?_
                    refine lv_i2l (v := (gvA sh a9 c9).toInt64) hx hb d_Box_addShares_125 rfl ?_
                    refine lv_ladd hx hb d_Box_addShares_126 ?_
                    refine lv_lstore (lv' := [(4, .long (bf + ((gvA sh a9 c9).toInt64))), (7, .ref q), (8, .ref q), (0, .ref bx), (1, .int (b2i sh)), (2, .long gv), (6, .int (nI i))]) hx hb d_Box_addShares_127 hl (by decide) rfl (fun ls hl => ?_)
                    obtain ⟨v52, ev52⟩ : ∃ y : Int32, y = (nI i) + 1 := ⟨_, rfl⟩
                    refine lv_iinc (v := v52) (lv' := [(6, .int v52), (4, .long (bf + ((gvA sh a9 c9).toInt64))), (7, .ref q), (8, .ref q), (0, .ref bx), (1, .int (b2i sh)), (2, .long gv)]) hx hb d_Box_addShares_129 hl (k := 6) rfl (by rw [ev52]; rfl) (by decide) rfl (fun ls hl => ?_)
                    refine lv_goto (tgt := 49) hx hb d_Box_addShares_132 (by decide) ?_
                    exact ih (i + 1) (bf + ((gvA sh a9 c9).toInt64)) _ _ _ _ ls (by omega) h48 (fun z z1 => by rw [eg46, hv_up_ne _ _ z1]; exact hfo z z1) (by rw [← heq]; simp only [shareF, hiv, if_pos c114]) hI (by rw [← nI_1, ← ev52]; exact lv_sub hl [4, 5, 6, 1, 0] rfl)
        exact loop n 0 0 gp0 f _ _ ls (by omega) hpa (fun z _ => rfl) rfl hI (lv_sub hl [4, 3, 2, 1, 0] rfl)
  · skip
    exact hv_vret hE hr hlocks hI hK (⟨rfl, by rw [addS, if_pos c4]; funext z; by_cases hz : z = pa; (rw [hz, hv_up_self]; exact hpa); (rw [hv_up_ne _ _ hz])⟩) (by decide) (by decide) d_Box_addShares_7
end
section
/-! ===== a box is made: its content, how deep, how many in all ===== -/
/-- a box lies at q, of this depth and with so many in all -/
def bxAt (f : hv_M) (q : Nat) (b : Int32 × Int32) : Prop := ∃ (bel w h d ex od to ov : Int32) (ca pa : Nat), f q = some (.inr (1, [.int bel, .ref ca, .ref pa, .int b.1, .int b.2, .int w, .int h, .int d, .int ex, .int od, .int to, .int ov]))
def mn6 (x : Int32) : Int32 := if x < 1000000 then x else 1000000
def initF (bi : Nat → Int32 × Int32) (iv : Nat → It) : Nat → Nat → Int32 → Int32 → Int32 × Int32
  | 0, _, dp, al => (dp, al)
  | k + 1, i, dp, al => match iv i with
    | .inl (_, _, _, _, some q, _) => initF bi iv k (i + 1) (mx dp ((bi q).1 + 1)) (mn6 (al + (bi q).2))
    | .inl (_, _, _, _, none, _) => initF bi iv k (i + 1) dp al
    | .inr _ => initF bi iv k (i + 1) dp al

set_option maxHeartbeats 4000000 in
set_option maxRecDepth 100000 in
theorem c_Box_init (l : Launch) (hl0 : l.stackTraces = false) (b0 : Nat) (D : va_G) (cA : Nat → ClassId) (f : hv_M) (bx la n : Nat) (bel : Bool) (gl : Nat → Option Nat) (iv : Nat → It) (bi : Nat → Int32 × Int32) (hbx : f bx = some (.inr (1, [.int 0, .null, .null, .int 0, .int 0, .int 0, .int 0, .int 0, .int 0, .int 0, .int 0, .int 0]))) (hla : f la = some (.inl (cA 3, 100, .inr (.inr (.inr (.inr gl)))))) (hit : itsAt f n gl iv) (hbi : ∀ i, i < n → ∀ t w h d q z, iv i = .inl (t, w, h, d, some q, z) → bxAt f q (bi q)) (hn : n ≤ 100) : hv_Met l y_Box_init [Cond.code y_Box_init b_Box_init 9 none] (RM 1 2 200) b0 (Fa D cA) D CL [.ref bx, .int (b2i bel), .ref la, .int (nI n)] f (fun v g => v = none ∧ ∃ (q1 q2 : Nat) (gc : Nat → Option Nat) (dp al : Int32), f q1 = none ∧ f q2 = none ∧ q1 ≠ q2 ∧ (∀ j, j < n → gc j = gl j) ∧ initF bi iv n 0 1 (nI n) = (dp, al) ∧ g bx = some (.inr (1, [.int (b2i bel), .ref q1, .ref q2, .int dp, .int al, .int 0, .int 0, .int 0, .int 0, .int 0, .int 0, .int 0])) ∧ g q1 = some (.inl (cA 3, n, .inr (.inr (.inr (.inr gc))))) ∧ g q2 = some (.inl (cA 0, n, .inl (fun _ => 0))) ∧ ∀ z, z ≠ bx → z ≠ q1 → z ≠ q2 → g z = f z) (NX) := by
  refine hv_Met.of (own := "BoxPacker$Box") (by decide) rfl (Nat.le_of_ble_eq_true rfl) ?_
  intro p e s m below meth c hE hml hout hr hlocks hname hK hI ls hl
  have hl : lv_has ls 9 [(0, .ref bx), (1, .int (b2i bel)), (2, .ref la), (3, .int (nI n))] := hl
  obtain ⟨hx, hb, hown, hts, hVK⟩ := id hE
  refine lv_aload_n hx hb d_Box_init_0 rfl (lv_at hl 0 rfl) ?_
  refine W.objInit hx hb hown (hts _ w319) (hts _ w22) (hts _ w23) rfl (by rw [hml]; exact hl.1) rfl d_Box_init_1 (by decide) (Nat.le_of_ble_eq_true rfl) ?_
  refine W.eq (g2 := F0 m 4 ls []) rfl ?_
  refine lv_aload_n hx hb d_Box_init_4 rfl (lv_at hl 0 rfl) ?_
  refine lv_iconst (v := 0) hx hb d_Box_init_5 (by decide) ?_
  refine hv_put hE k_Box hI 5 (by decide) w339 hbx rfl (by first | rfl | (cases bel <;> rfl)) (by first | rfl | (cases bel <;> rfl)) (Nat.le_of_ble_eq_true rfl) d_Box_init_6 (fun H locs hI => ?_)
  obtain ⟨g1, eg1⟩ : ∃ z : hv_M, z = hv_up f bx (.inr (1, [.int 0, .null, .null, .int 0, .int 0, .int 0, .int 0, .int 0, .int 0, .int 0, .int 0, .int 0])) := ⟨_, rfl⟩
  have hI : hv_I D CL b0 g1 s.heap H locs := by rw [eg1]; exact hI
  have h2 : g1 bx = some (.inr (1, [.int 0, .null, .null, .int 0, .int 0, .int 0, .int 0, .int 0, .int 0, .int 0, .int 0, .int 0])) := by rw [eg1]; exact hv_up_self _ _ _
  refine lv_aload_n hx hb d_Box_init_9 rfl (lv_at hl 0 rfl) ?_
  refine lv_iconst (v := 0) hx hb d_Box_init_10 (by decide) ?_
  refine hv_put hE k_Box hI 6 (by decide) w341 h2 rfl (by first | rfl | (cases bel <;> rfl)) (by first | rfl | (cases bel <;> rfl)) (Nat.le_of_ble_eq_true rfl) d_Box_init_11 (fun H locs hI => ?_)
  obtain ⟨g3, eg3⟩ : ∃ z : hv_M, z = hv_up g1 bx (.inr (1, [.int 0, .null, .null, .int 0, .int 0, .int 0, .int 0, .int 0, .int 0, .int 0, .int 0, .int 0])) := ⟨_, rfl⟩
  have hI : hv_I D CL b0 g3 s.heap H locs := by rw [eg3]; exact hI
  have h4 : g3 bx = some (.inr (1, [.int 0, .null, .null, .int 0, .int 0, .int 0, .int 0, .int 0, .int 0, .int 0, .int 0, .int 0])) := by rw [eg3]; exact hv_up_self _ _ _
  refine lv_aload_n hx hb d_Box_init_14 rfl (lv_at hl 0 rfl) ?_
  refine lv_iconst (v := 0) hx hb d_Box_init_15 (by decide) ?_
  refine hv_put hE k_Box hI 7 (by decide) w343 h4 rfl (by first | rfl | (cases bel <;> rfl)) (by first | rfl | (cases bel <;> rfl)) (Nat.le_of_ble_eq_true rfl) d_Box_init_16 (fun H locs hI => ?_)
  obtain ⟨g5, eg5⟩ : ∃ z : hv_M, z = hv_up g3 bx (.inr (1, [.int 0, .null, .null, .int 0, .int 0, .int 0, .int 0, .int 0, .int 0, .int 0, .int 0, .int 0])) := ⟨_, rfl⟩
  have hI : hv_I D CL b0 g5 s.heap H locs := by rw [eg5]; exact hI
  have h6 : g5 bx = some (.inr (1, [.int 0, .null, .null, .int 0, .int 0, .int 0, .int 0, .int 0, .int 0, .int 0, .int 0, .int 0])) := by rw [eg5]; exact hv_up_self _ _ _
  refine lv_aload_n hx hb d_Box_init_19 rfl (lv_at hl 0 rfl) ?_
  refine lv_iconst (v := 0) hx hb d_Box_init_20 (by decide) ?_
  refine hv_put hE k_Box hI 8 (by decide) w345 h6 rfl (by first | rfl | (cases bel <;> rfl)) (by first | rfl | (cases bel <;> rfl)) (Nat.le_of_ble_eq_true rfl) d_Box_init_21 (fun H locs hI => ?_)
  obtain ⟨g7, eg7⟩ : ∃ z : hv_M, z = hv_up g5 bx (.inr (1, [.int 0, .null, .null, .int 0, .int 0, .int 0, .int 0, .int 0, .int 0, .int 0, .int 0, .int 0])) := ⟨_, rfl⟩
  have hI : hv_I D CL b0 g7 s.heap H locs := by rw [eg7]; exact hI
  have h8 : g7 bx = some (.inr (1, [.int 0, .null, .null, .int 0, .int 0, .int 0, .int 0, .int 0, .int 0, .int 0, .int 0, .int 0])) := by rw [eg7]; exact hv_up_self _ _ _
  refine lv_aload_n hx hb d_Box_init_24 rfl (lv_at hl 0 rfl) ?_
  refine lv_iconst (v := 0) hx hb d_Box_init_25 (by decide) ?_
  refine hv_put hE k_Box hI 9 (by decide) w347 h8 rfl (by first | rfl | (cases bel <;> rfl)) (by first | rfl | (cases bel <;> rfl)) (Nat.le_of_ble_eq_true rfl) d_Box_init_26 (fun H locs hI => ?_)
  obtain ⟨g9, eg9⟩ : ∃ z : hv_M, z = hv_up g7 bx (.inr (1, [.int 0, .null, .null, .int 0, .int 0, .int 0, .int 0, .int 0, .int 0, .int 0, .int 0, .int 0])) := ⟨_, rfl⟩
  have hI : hv_I D CL b0 g9 s.heap H locs := by rw [eg9]; exact hI
  have h10 : g9 bx = some (.inr (1, [.int 0, .null, .null, .int 0, .int 0, .int 0, .int 0, .int 0, .int 0, .int 0, .int 0, .int 0])) := by rw [eg9]; exact hv_up_self _ _ _
  refine lv_aload_n hx hb d_Box_init_29 rfl (lv_at hl 0 rfl) ?_
  refine lv_iconst (v := 0) hx hb d_Box_init_30 (by decide) ?_
  refine hv_put hE k_Box hI 10 (by decide) w349 h10 rfl (by first | rfl | (cases bel <;> rfl)) (by first | rfl | (cases bel <;> rfl)) (Nat.le_of_ble_eq_true rfl) d_Box_init_31 (fun H locs hI => ?_)
  obtain ⟨g11, eg11⟩ : ∃ z : hv_M, z = hv_up g9 bx (.inr (1, [.int 0, .null, .null, .int 0, .int 0, .int 0, .int 0, .int 0, .int 0, .int 0, .int 0, .int 0])) := ⟨_, rfl⟩
  have hI : hv_I D CL b0 g11 s.heap H locs := by rw [eg11]; exact hI
  have h12 : g11 bx = some (.inr (1, [.int 0, .null, .null, .int 0, .int 0, .int 0, .int 0, .int 0, .int 0, .int 0, .int 0, .int 0])) := by rw [eg11]; exact hv_up_self _ _ _
  refine lv_aload_n hx hb d_Box_init_34 rfl (lv_at hl 0 rfl) ?_
  refine lv_iconst (v := 0) hx hb d_Box_init_35 (by decide) ?_
  refine hv_put hE k_Box hI 11 (by decide) w351 h12 rfl (by first | rfl | (cases bel <;> rfl)) (by first | rfl | (cases bel <;> rfl)) (Nat.le_of_ble_eq_true rfl) d_Box_init_36 (fun H locs hI => ?_)
  obtain ⟨g13, eg13⟩ : ∃ z : hv_M, z = hv_up g11 bx (.inr (1, [.int 0, .null, .null, .int 0, .int 0, .int 0, .int 0, .int 0, .int 0, .int 0, .int 0, .int 0])) := ⟨_, rfl⟩
  have hI : hv_I D CL b0 g13 s.heap H locs := by rw [eg13]; exact hI
  have h14 : g13 bx = some (.inr (1, [.int 0, .null, .null, .int 0, .int 0, .int 0, .int 0, .int 0, .int 0, .int 0, .int 0, .int 0])) := by rw [eg13]; exact hv_up_self _ _ _
  refine lv_aload_n hx hb d_Box_init_39 rfl (lv_at hl 0 rfl) ?_
  refine lv_iload_n hx hb d_Box_init_40 rfl (lv_at hl 1 rfl) ?_
  refine hv_putF hE k_Box hI hname 0 (by decide) w329 h14 rfl rfl (by first | rfl | (cases bel <;> rfl)) (by first | rfl | (cases bel <;> rfl)) (Nat.le_of_ble_eq_true rfl) d_Box_init_41 (fun H locs hI => ?_)
  obtain ⟨g15, eg15⟩ : ∃ z : hv_M, z = hv_up g13 bx (.inr (1, [.int (b2i bel), .null, .null, .int 0, .int 0, .int 0, .int 0, .int 0, .int 0, .int 0, .int 0, .int 0])) := ⟨_, rfl⟩
  have hI : hv_I D CL b0 g15 s.heap H locs := by rw [eg15]; exact hI
  have h16 : g15 bx = some (.inr (1, [.int (b2i bel), .null, .null, .int 0, .int 0, .int 0, .int 0, .int 0, .int 0, .int 0, .int 0, .int 0])) := by rw [eg15]; exact hv_up_self _ _ _
  refine lv_aload_n hx hb d_Box_init_44 rfl (lv_at hl 0 rfl) ?_
  refine lv_iload_n hx hb d_Box_init_45 rfl (lv_at hl 3 rfl) ?_
  refine hv_newQ hE hI 3 rfl w320 w25 (n := n) (by rw [Int32.not_lt]; exact nI_le (a := 0) (by omega) (by omega)) (nI_cl (by omega)) (by omega) (by decide) (show _ ≤ 200 by omega) d_Box_init_46 (fun q17 H hnq17 hI => ?_)
  obtain ⟨g18, eg18⟩ : ∃ z : hv_M, z = hv_up g15 q17 (.inl (cA 3, n, .inr (.inr (.inr (.inr (fun _ => none)))))) := ⟨_, rfl⟩
  have hI : hv_I D CL b0 g18 s.heap H locs := by rw [eg18]; exact hI
  have h19 : g18 bx = some (.inr (1, [.int (b2i bel), .null, .null, .int 0, .int 0, .int 0, .int 0, .int 0, .int 0, .int 0, .int 0, .int 0])) := by rw [eg18]; rw [hv_up_ne _ _ (hv_nn h16 hnq17)]; exact h16
  have h20 : g18 q17 = some (.inl (cA 3, n, .inr (.inr (.inr (.inr (fun _ => none)))))) := by rw [eg18]; exact hv_up_self _ _ _
  refine hv_putF hE k_Box hI hname 1 (by decide) w331 h19 rfl rfl (by first | rfl | (cases bel <;> rfl)) (by first | rfl | (cases bel <;> rfl)) (Nat.le_of_ble_eq_true rfl) d_Box_init_49 (fun H locs hI => ?_)
  obtain ⟨g21, eg21⟩ : ∃ z : hv_M, z = hv_up g18 bx (.inr (1, [.int (b2i bel), .ref q17, .null, .int 0, .int 0, .int 0, .int 0, .int 0, .int 0, .int 0, .int 0, .int 0])) := ⟨_, rfl⟩
  have hI : hv_I D CL b0 g21 s.heap H locs := by rw [eg21]; exact hI
  have h22 : g21 bx = some (.inr (1, [.int (b2i bel), .ref q17, .null, .int 0, .int 0, .int 0, .int 0, .int 0, .int 0, .int 0, .int 0, .int 0])) := by rw [eg21]; exact hv_up_self _ _ _
  have h23 : g21 q17 = some (.inl (cA 3, n, .inr (.inr (.inr (.inr (fun _ => none)))))) := by rw [eg21]; rw [hv_up_ne _ _ (hv_ne h20 h19 (by simp))]; exact h20
  refine lv_aload_n hx hb d_Box_init_52 rfl (lv_at hl 0 rfl) ?_
  refine lv_iload_n hx hb d_Box_init_53 rfl (lv_at hl 3 rfl) ?_
  refine hv_newI hE hI 0 rfl w378 (n := n) (by rw [Int32.not_lt]; exact nI_le (a := 0) (by omega) (by omega)) (nI_cl (by omega)) (by omega) (by decide) (show _ ≤ 200 by omega) d_Box_init_54 (fun q24 H hnq24 hI => ?_)
  obtain ⟨g25, eg25⟩ : ∃ z : hv_M, z = hv_up g21 q24 (.inl (cA 0, n, .inl (fun _ => 0))) := ⟨_, rfl⟩
  have hI : hv_I D CL b0 g25 s.heap H locs := by rw [eg25]; exact hI
  have h26 : g25 bx = some (.inr (1, [.int (b2i bel), .ref q17, .null, .int 0, .int 0, .int 0, .int 0, .int 0, .int 0, .int 0, .int 0, .int 0])) := by rw [eg25]; rw [hv_up_ne _ _ (hv_nn h22 hnq24)]; exact h22
  have h27 : g25 q17 = some (.inl (cA 3, n, .inr (.inr (.inr (.inr (fun _ => none)))))) := by rw [eg25]; rw [hv_up_ne _ _ (hv_nn h23 hnq24)]; exact h23
  have h28 : g25 q24 = some (.inl (cA 0, n, .inl (fun _ => 0))) := by rw [eg25]; exact hv_up_self _ _ _
  refine hv_putF hE k_Box hI hname 2 (by decide) w333 h26 rfl rfl (by first | rfl | (cases bel <;> rfl)) (by first | rfl | (cases bel <;> rfl)) (Nat.le_of_ble_eq_true rfl) d_Box_init_56 (fun H locs hI => ?_)
  obtain ⟨g29, eg29⟩ : ∃ z : hv_M, z = hv_up g25 bx (.inr (1, [.int (b2i bel), .ref q17, .ref q24, .int 0, .int 0, .int 0, .int 0, .int 0, .int 0, .int 0, .int 0, .int 0])) := ⟨_, rfl⟩
  have hI : hv_I D CL b0 g29 s.heap H locs := by rw [eg29]; exact hI
  have h30 : g29 bx = some (.inr (1, [.int (b2i bel), .ref q17, .ref q24, .int 0, .int 0, .int 0, .int 0, .int 0, .int 0, .int 0, .int 0, .int 0])) := by rw [eg29]; exact hv_up_self _ _ _
  have h31 : g29 q17 = some (.inl (cA 3, n, .inr (.inr (.inr (.inr (fun _ => none)))))) := by rw [eg29]; rw [hv_up_ne _ _ (hv_ne h27 h26 (by simp))]; exact h27
  have h32 : g29 q24 = some (.inl (cA 0, n, .inl (fun _ => 0))) := by rw [eg29]; rw [hv_up_ne _ _ (hv_ne h28 h26 (by simp))]; exact h28
  refine lv_iconst (v := 1) hx hb d_Box_init_59 (by decide) ?_
  refine lv_istore (lv' := [(4, .int 1), (0, .ref bx), (1, .int (b2i bel)), (2, .ref la), (3, .int (nI n))]) hx hb d_Box_init_60 hl (by decide) rfl (fun ls hl => ?_)
  refine lv_iload_n hx hb d_Box_init_62 rfl (lv_at hl 4 rfl) ?_
  refine lv_istore (lv' := [(5, .int (nI n)), (4, .int 1), (0, .ref bx), (1, .int (b2i bel)), (2, .ref la), (3, .int (nI n))]) hx hb d_Box_init_63 hl (by decide) rfl (fun ls hl => ?_)
  refine lv_iconst (v := 0) hx hb d_Box_init_65 (by decide) ?_
  refine lv_istore (lv' := [(6, .int 0), (5, .int (nI n)), (4, .int 1), (0, .ref bx), (1, .int (b2i bel)), (2, .ref la), (3, .int (nI n))]) hx hb d_Box_init_66 hl (by decide) rfl (fun ls hl => ?_)
  have hb1 : q17 ≠ bx := fun q => by rw [q] at hnq17; simp [eg15, eg13, eg11, eg9, eg7, eg5, eg3, eg1, hv_up] at hnq17
  have hf1 : f q17 = none := by have h9 := hnq17; rw [eg15, hv_up_ne _ _ hb1, eg13, hv_up_ne _ _ hb1, eg11, hv_up_ne _ _ hb1, eg9, hv_up_ne _ _ hb1, eg7, hv_up_ne _ _ hb1, eg5, hv_up_ne _ _ hb1, eg3, hv_up_ne _ _ hb1, eg1, hv_up_ne _ _ hb1] at h9; exact h9
  have hb2 : q24 ≠ bx := fun q => by rw [q] at hnq24; simp [eg21, eg18, eg15, eg13, eg11, eg9, eg7, eg5, eg3, eg1, hv_up] at hnq24
  have hb3 : q24 ≠ q17 := fun q => by rw [q] at hnq24; simp [eg21, eg18, eg15, eg13, eg11, eg9, eg7, eg5, eg3, eg1, hv_up, hb1] at hnq24
  have hf2 : f q24 = none := by have h9 := hnq24; rw [eg21, hv_up_ne _ _ hb2, eg18, hv_up_ne _ _ hb3, eg15, hv_up_ne _ _ hb2, eg13, hv_up_ne _ _ hb2, eg11, hv_up_ne _ _ hb2, eg9, hv_up_ne _ _ hb2, eg7, hv_up_ne _ _ hb2, eg5, hv_up_ne _ _ hb2, eg3, hv_up_ne _ _ hb2, eg1, hv_up_ne _ _ hb2] at h9; exact h9
  have hlq : la ≠ q17 := hv_nn hla hf1
  have loop : ∀ (k i : Nat) (dp al : Int32) (gc : Nat → Option Nat) (g : hv_M) (H : Heap) (locs : List Loc) (ls : Array Slot), i + k = n → g bx = some (.inr (1, [.int (b2i bel), .ref q17, .ref q24, .int 0, .int 0, .int 0, .int 0, .int 0, .int 0, .int 0, .int 0, .int 0])) → g q17 = some (.inl (cA 3, n, .inr (.inr (.inr (.inr gc))))) → g q24 = some (.inl (cA 0, n, .inl (fun _ => 0))) → (∀ z, z ≠ bx → z ≠ q17 → z ≠ q24 → g z = f z) → (∀ j, j < i → gc j = gl j) → initF bi iv k i dp al = initF bi iv n 0 1 (nI n) → hv_I D CL b0 g s.heap H locs → lv_has ls 9 [(0, .ref bx), (2, .ref la), (3, .int (nI n)), (4, .int dp), (5, .int al), (6, .int (nI i))] → W p l e (RM 1 2 200) s m ([.ref bx, .int (b2i bel), .ref la, .int (nI n)] : List Value).toArray below meth c H locs (0 + 1 + 1) (0 + n + n) (xh_MQ below (hv_Q b0 (Fa D cA) D CL (fun v g => v = none ∧ ∃ (q1 q2 : Nat) (gc : Nat → Option Nat) (dp al : Int32), f q1 = none ∧ f q2 = none ∧ q1 ≠ q2 ∧ (∀ j, j < n → gc j = gl j) ∧ initF bi iv n 0 1 (nI n) = (dp, al) ∧ g bx = some (.inr (1, [.int (b2i bel), .ref q1, .ref q2, .int dp, .int al, .int 0, .int 0, .int 0, .int 0, .int 0, .int 0, .int 0])) ∧ g q1 = some (.inl (cA 3, n, .inr (.inr (.inr (.inr gc))))) ∧ g q2 = some (.inl (cA 0, n, .inl (fun _ => 0))) ∧ ∀ z, z ≠ bx → z ≠ q1 → z ≠ q2 → g z = f z) (NX)) s 2 200 (fun q => b0 ≤ q)) (F0 m 68 ls []) := by
    intro k
    induction k with
    | zero =>
      intro i dp al gc g H locs ls hik hgb hg1 hg2 hfo hcp heq hI hl
      have hgl : g la = some (.inl (cA 3, 100, .inr (.inr (.inr (.inr gl))))) := by rw [hfo la (hv_ne hla hbx (by simp)) (hv_nn hla hf1) (hv_nn hla hf2)]; exact hla
      refine lv_iload hx hb d_Box_init_68 (lv_at hl 5 rfl) ?_
      refine lv_iload_n hx hb d_Box_init_70 rfl (lv_at hl 2 rfl) ?_
      refine lv_icmp_ge (tgt := 155) hx hb d_Box_init_71 (by decide) (fun c71 => ?_) (fun c71 => ?_)
      · skip
        refine lv_aload_n hx hb d_Box_init_155 rfl (lv_at hl 0 rfl) ?_
        refine lv_iload hx hb d_Box_init_156 (lv_at hl 3 rfl) ?_
        refine hv_putF hE k_Box hI hname 3 (by decide) w335 hgb rfl rfl rfl rfl (Nat.le_of_ble_eq_true rfl) d_Box_init_158 (fun H locs hI => ?_)
        obtain ⟨g33, eg33⟩ : ∃ z : hv_M, z = hv_up g bx (.inr (1, [.int (b2i bel), .ref q17, .ref q24, .int dp, .int 0, .int 0, .int 0, .int 0, .int 0, .int 0, .int 0, .int 0])) := ⟨_, rfl⟩
        have hI : hv_I D CL b0 g33 s.heap H locs := by rw [eg33]; exact hI
        have h34 : g33 bx = some (.inr (1, [.int (b2i bel), .ref q17, .ref q24, .int dp, .int 0, .int 0, .int 0, .int 0, .int 0, .int 0, .int 0, .int 0])) := by rw [eg33]; exact hv_up_self _ _ _
        have h35 : g33 q17 = some (.inl (cA 3, n, .inr (.inr (.inr (.inr gc))))) := by rw [eg33]; rw [hv_up_ne _ _ (hv_ne hg1 hgb (by simp))]; exact hg1
        have h36 : g33 la = some (.inl (cA 3, 100, .inr (.inr (.inr (.inr gl))))) := by rw [eg33]; rw [hv_up_ne _ _ (hv_ne hgl hgb (by simp))]; exact hgl
        have h37 : g33 q24 = some (.inl (cA 0, n, .inl (fun _ => 0))) := by rw [eg33]; rw [hv_up_ne _ _ (hv_ne hg2 hgb (by simp))]; exact hg2
        refine lv_aload_n hx hb d_Box_init_161 rfl (lv_at hl 0 rfl) ?_
        refine lv_iload hx hb d_Box_init_162 (lv_at hl 4 rfl) ?_
        refine hv_putF hE k_Box hI hname 4 (by decide) w337 h34 rfl rfl rfl rfl (Nat.le_of_ble_eq_true rfl) d_Box_init_164 (fun H locs hI => ?_)
        obtain ⟨g38, eg38⟩ : ∃ z : hv_M, z = hv_up g33 bx (.inr (1, [.int (b2i bel), .ref q17, .ref q24, .int dp, .int al, .int 0, .int 0, .int 0, .int 0, .int 0, .int 0, .int 0])) := ⟨_, rfl⟩
        have hI : hv_I D CL b0 g38 s.heap H locs := by rw [eg38]; exact hI
        have h39 : g38 bx = some (.inr (1, [.int (b2i bel), .ref q17, .ref q24, .int dp, .int al, .int 0, .int 0, .int 0, .int 0, .int 0, .int 0, .int 0])) := by rw [eg38]; exact hv_up_self _ _ _
        have h40 : g38 q17 = some (.inl (cA 3, n, .inr (.inr (.inr (.inr gc))))) := by rw [eg38]; rw [hv_up_ne _ _ (hv_ne h35 h34 (by simp))]; exact h35
        have h41 : g38 la = some (.inl (cA 3, 100, .inr (.inr (.inr (.inr gl))))) := by rw [eg38]; rw [hv_up_ne _ _ (hv_ne h36 h34 (by simp))]; exact h36
        have h42 : g38 q24 = some (.inl (cA 0, n, .inl (fun _ => 0))) := by rw [eg38]; rw [hv_up_ne _ _ (hv_ne h37 h34 (by simp))]; exact h37
        exact hv_vret hE hr hlocks hI hK (⟨rfl, q17, q24, gc, dp, al, hf1, hf2, Ne.symm hb3, fun j hj => hcp j (by omega), heq.symm, h39, h40, h42, fun z z1 z2 z3 => by rw [eg38, hv_up_ne _ _ z1, eg33, hv_up_ne _ _ z1]; exact hfo z z1 z2 z3⟩) (by first | decide | exact (show _ ≤ 200 by omega)) (by first | decide | exact (show _ ≤ 200 by omega)) d_Box_init_167
      · skip
        exact absurd (nI_le (by omega) (by omega)) c71
    | succ k ih =>
      intro i dp al gc g H locs ls hik hgb hg1 hg2 hfo hcp heq hI hl
      have hgl : g la = some (.inl (cA 3, 100, .inr (.inr (.inr (.inr gl))))) := by rw [hfo la (hv_ne hla hbx (by simp)) (hv_nn hla hf1) (hv_nn hla hf2)]; exact hla
      obtain ⟨q, hq1, hq2⟩ := hit i (by omega)
      rcases hiv : iv i with ⟨t, iw, ih9, id9, inn, z9⟩ | ⟨iw, a9, b9, c9, e9⟩
      rcases inn with _ | qb
      · rw [hiv] at hq2
        have hgq : g q = some (.inr (2, [.int t, .int iw, .int ih9, .int id9, .null, .int z9])) := by rw [hfo q (hv_ne hq2 hbx (by simp [itE])) (hv_nn hq2 hf1) (hv_nn hq2 hf2)]; exact hq2
        refine lv_iload hx hb d_Box_init_68 (lv_at hl 5 rfl) ?_
        refine lv_iload_n hx hb d_Box_init_70 rfl (lv_at hl 2 rfl) ?_
        refine lv_icmp_ge (tgt := 155) hx hb d_Box_init_71 (by decide) (fun c71 => ?_) (fun c71 => ?_)
        · skip
          exact absurd c71 (nI_ge (by omega) (by omega))
        · skip
          refine lv_aload_n hx hb d_Box_init_74 rfl (lv_at hl 0 rfl) ?_
          refine hv_get hE k_Box hI 1 (by decide) w331 hgb rfl d_Box_init_75 ?_
          refine lv_iload hx hb d_Box_init_78 (lv_at hl 5 rfl) ?_
          refine lv_aload_n hx hb d_Box_init_80 rfl (lv_at hl 1 rfl) ?_
          refine lv_iload hx hb d_Box_init_81 (lv_at hl 5 rfl) ?_
          refine hv_aald hE hI 3 hgl rfl (pk_in i 100 (by omega) rfl (by omega)) d_Box_init_83 ?_
          rw [nI_cl (by omega)]
          rw [hq1]
          refine W.eq (g2 := F0 m 84 ls [.ref q, .int (nI i), .ref q17]) rfl ?_
          refine hv_aast hE hI 3 hg1 rfl hgq rfl w762 (pk_in i n (by omega) rfl (by omega)) d_Box_init_84 (fun H locs hI => ?_)
          rw [nI_cl (by omega)] at hI
          obtain ⟨g43, eg43⟩ : ∃ z : hv_M, z = hv_up g q17 (.inl (cA 3, n, .inr (.inr (.inr (.inr (va_up gc i (some q))))))) := ⟨_, rfl⟩
          have hI : hv_I D CL b0 g43 s.heap H locs := by rw [eg43]; exact hI
          have h44 : g43 bx = some (.inr (1, [.int (b2i bel), .ref q17, .ref q24, .int 0, .int 0, .int 0, .int 0, .int 0, .int 0, .int 0, .int 0, .int 0])) := by rw [eg43]; rw [hv_up_ne _ _ (hv_ne hgb hg1 (by simp))]; exact hgb
          have h45 : g43 q17 = some (.inl (cA 3, n, .inr (.inr (.inr (.inr (va_up gc i (some q))))))) := by rw [eg43]; exact hv_up_self _ _ _
          have h46 : g43 la = some (.inl (cA 3, 100, .inr (.inr (.inr (.inr gl))))) := by rw [eg43]; rw [hv_up_ne _ _ hlq]; exact hgl
          have h47 : g43 q24 = some (.inl (cA 0, n, .inl (fun _ => 0))) := by rw [eg43]; rw [hv_up_ne _ _ (hv_ne hg2 hg1 (by simp))]; exact hg2
          have h48 : g43 q = some (.inr (2, [.int t, .int iw, .int ih9, .int id9, .null, .int z9])) := by rw [eg43]; rw [hv_up_ne _ _ (hv_ne hgq hg1 (by simp))]; exact hgq
          refine lv_aload_n hx hb d_Box_init_85 rfl (lv_at hl 1 rfl) ?_
          refine lv_iload hx hb d_Box_init_86 (lv_at hl 5 rfl) ?_
          refine hv_aald hE hI 3 h46 rfl (pk_in i 100 (by omega) rfl (by omega)) d_Box_init_88 ?_
          rw [nI_cl (by omega)]
          rw [hq1]
          refine W.eq (g2 := F0 m 89 ls [.ref q]) rfl ?_
          refine lv_astore (lv' := [(8, .ref q), (0, .ref bx), (2, .ref la), (3, .int (nI n)), (4, .int dp), (5, .int al), (6, .int (nI i))]) hx hb d_Box_init_89 hl (by decide) rfl (fun ls hl => ?_)
          refine lv_aload hx hb d_Box_init_91 (lv_at hl 0 rfl) ?_
          refine hv_instS hE hI h48 rfl w321 d_Box_init_93 ?_
          refine lv_if_eq (tgt := 149) hx hb d_Box_init_96 (by decide) (fun c96 => ?_) (fun c96 => ?_)
          · skip
            exact absurd c96 (by decide)
          · skip
            refine lv_aload hx hb d_Box_init_99 (lv_at hl 0 rfl) ?_
            refine hv_castS hE hI h48 rfl w321 d_Box_init_101 ?_
            refine lv_astore (lv' := [(7, .ref q), (8, .ref q), (0, .ref bx), (2, .ref la), (3, .int (nI n)), (4, .int dp), (5, .int al), (6, .int (nI i))]) hx hb d_Box_init_104 hl (by decide) rfl (fun ls hl => ?_)
            refine lv_aload hx hb d_Box_init_106 (lv_at hl 0 rfl) ?_
            refine hv_getN hE k_Solid hI 4 (by decide) w198 h48 rfl d_Box_init_108 ?_
            refine lv_ifnullN (tgt := 149) hx hb d_Box_init_111 (by decide) ?_
            obtain ⟨v49, ev49⟩ : ∃ y : Int32, y = (nI i) + 1 := ⟨_, rfl⟩
            refine lv_iinc (v := v49) (lv' := [(6, .int v49), (7, .ref q), (8, .ref q), (0, .ref bx), (2, .ref la), (3, .int (nI n)), (4, .int dp), (5, .int al)]) hx hb d_Box_init_149 hl (k := 7) rfl (by rw [ev49]; rfl) (by decide) rfl (fun ls hl => ?_)
            refine lv_goto (tgt := 68) hx hb d_Box_init_152 (by decide) ?_
            exact ih (i + 1) dp al _ _ _ _ ls (by omega) h44 h45 h47 (fun z z1 z2 z3 => by rw [eg43, hv_up_ne _ _ z2]; exact hfo z z1 z2 z3) (fun j hj => by by_cases hji : j = i; (rw [hji, hq1]; simp [va_up]); (rw [show va_up gc i (some q) j = gc j from by simp [va_up, hji]]; exact hcp j (by omega))) (by rw [← heq]; simp only [initF, hiv, mn6]) hI (by rw [← nI_1, ← ev49]; exact lv_sub hl [3, 4, 5, 6, 7, 0] rfl)
      · rw [hiv] at hq2
        have hgq : g q = some (.inr (2, [.int t, .int iw, .int ih9, .int id9, .ref qb, .int z9])) := by rw [hfo q (hv_ne hq2 hbx (by simp [itE])) (hv_nn hq2 hf1) (hv_nn hq2 hf2)]; exact hq2
        obtain ⟨xb, xw, xh, xd, xe, xo, xt, xv, xc, xp, hqb⟩ := hbi i (by omega) _ _ _ _ _ _ hiv
        have hib : qb ≠ bx := hv_ne hqb hbx (by simp)
        have hgi : g qb = some (.inr (1, [.int xb, .ref xc, .ref xp, .int (bi qb).1, .int (bi qb).2, .int xw, .int xh, .int xd, .int xe, .int xo, .int xt, .int xv])) := by rw [hfo qb hib (hv_nn hqb hf1) (hv_nn hqb hf2)]; exact hqb
        refine lv_iload hx hb d_Box_init_68 (lv_at hl 5 rfl) ?_
        refine lv_iload_n hx hb d_Box_init_70 rfl (lv_at hl 2 rfl) ?_
        refine lv_icmp_ge (tgt := 155) hx hb d_Box_init_71 (by decide) (fun c71 => ?_) (fun c71 => ?_)
        · skip
          exact absurd c71 (nI_ge (by omega) (by omega))
        · skip
          refine lv_aload_n hx hb d_Box_init_74 rfl (lv_at hl 0 rfl) ?_
          refine hv_get hE k_Box hI 1 (by decide) w331 hgb rfl d_Box_init_75 ?_
          refine lv_iload hx hb d_Box_init_78 (lv_at hl 5 rfl) ?_
          refine lv_aload_n hx hb d_Box_init_80 rfl (lv_at hl 1 rfl) ?_
          refine lv_iload hx hb d_Box_init_81 (lv_at hl 5 rfl) ?_
          refine hv_aald hE hI 3 hgl rfl (pk_in i 100 (by omega) rfl (by omega)) d_Box_init_83 ?_
          rw [nI_cl (by omega)]
          rw [hq1]
          refine W.eq (g2 := F0 m 84 ls [.ref q, .int (nI i), .ref q17]) rfl ?_
          refine hv_aast hE hI 3 hg1 rfl hgq rfl w762 (pk_in i n (by omega) rfl (by omega)) d_Box_init_84 (fun H locs hI => ?_)
          rw [nI_cl (by omega)] at hI
          obtain ⟨g50, eg50⟩ : ∃ z : hv_M, z = hv_up g q17 (.inl (cA 3, n, .inr (.inr (.inr (.inr (va_up gc i (some q))))))) := ⟨_, rfl⟩
          have hI : hv_I D CL b0 g50 s.heap H locs := by rw [eg50]; exact hI
          have h51 : g50 bx = some (.inr (1, [.int (b2i bel), .ref q17, .ref q24, .int 0, .int 0, .int 0, .int 0, .int 0, .int 0, .int 0, .int 0, .int 0])) := by rw [eg50]; rw [hv_up_ne _ _ (hv_ne hgb hg1 (by simp))]; exact hgb
          have h52 : g50 q17 = some (.inl (cA 3, n, .inr (.inr (.inr (.inr (va_up gc i (some q))))))) := by rw [eg50]; exact hv_up_self _ _ _
          have h53 : g50 la = some (.inl (cA 3, 100, .inr (.inr (.inr (.inr gl))))) := by rw [eg50]; rw [hv_up_ne _ _ hlq]; exact hgl
          have h54 : g50 q24 = some (.inl (cA 0, n, .inl (fun _ => 0))) := by rw [eg50]; rw [hv_up_ne _ _ (hv_ne hg2 hg1 (by simp))]; exact hg2
          have h55 : g50 q = some (.inr (2, [.int t, .int iw, .int ih9, .int id9, .ref qb, .int z9])) := by rw [eg50]; rw [hv_up_ne _ _ (hv_ne hgq hg1 (by simp))]; exact hgq
          have h56 : g50 qb = some (.inr (1, [.int xb, .ref xc, .ref xp, .int (bi qb).1, .int (bi qb).2, .int xw, .int xh, .int xd, .int xe, .int xo, .int xt, .int xv])) := by rw [eg50]; rw [hv_up_ne _ _ (hv_ne hgi hg1 (by simp))]; exact hgi
          refine lv_aload_n hx hb d_Box_init_85 rfl (lv_at hl 1 rfl) ?_
          refine lv_iload hx hb d_Box_init_86 (lv_at hl 5 rfl) ?_
          refine hv_aald hE hI 3 h53 rfl (pk_in i 100 (by omega) rfl (by omega)) d_Box_init_88 ?_
          rw [nI_cl (by omega)]
          rw [hq1]
          refine W.eq (g2 := F0 m 89 ls [.ref q]) rfl ?_
          refine lv_astore (lv' := [(8, .ref q), (0, .ref bx), (2, .ref la), (3, .int (nI n)), (4, .int dp), (5, .int al), (6, .int (nI i))]) hx hb d_Box_init_89 hl (by decide) rfl (fun ls hl => ?_)
          refine lv_aload hx hb d_Box_init_91 (lv_at hl 0 rfl) ?_
          refine hv_instS hE hI h55 rfl w321 d_Box_init_93 ?_
          refine lv_if_eq (tgt := 149) hx hb d_Box_init_96 (by decide) (fun c96 => ?_) (fun c96 => ?_)
          · skip
            exact absurd c96 (by decide)
          · skip
            refine lv_aload hx hb d_Box_init_99 (lv_at hl 0 rfl) ?_
            refine hv_castS hE hI h55 rfl w321 d_Box_init_101 ?_
            refine lv_astore (lv' := [(7, .ref q), (8, .ref q), (0, .ref bx), (2, .ref la), (3, .int (nI n)), (4, .int dp), (5, .int al), (6, .int (nI i))]) hx hb d_Box_init_104 hl (by decide) rfl (fun ls hl => ?_)
            refine lv_aload hx hb d_Box_init_106 (lv_at hl 0 rfl) ?_
            refine hv_getN hE k_Solid hI 4 (by decide) w198 h55 rfl d_Box_init_108 ?_
            refine lv_ifnull hx hb d_Box_init_111 ?_
            refine lv_iload hx hb d_Box_init_114 (lv_at hl 5 rfl) ?_
            refine lv_aload hx hb d_Box_init_116 (lv_at hl 0 rfl) ?_
            refine hv_getN hE k_Solid hI 4 (by decide) w198 h55 rfl d_Box_init_118 ?_
            refine hv_get hE k_Box hI 3 (by decide) w335 h56 rfl d_Box_init_121 ?_
            refine lv_iconst (v := 1) hx hb d_Box_init_124 (by decide) ?_
            refine lv_iadd hx hb d_Box_init_125 ?_
            refine va_mmax hx hb (hml.trans hl.1.symm) hown (hts _ w322) (hts _ w323) (hts _ w14) (hts _ w324) (by decide) (Nat.le_of_ble_eq_true rfl) (by first | decide | exact (show _ ≤ 200 by omega)) (by first | decide | exact (show _ ≤ 200 by omega)) d_Box_init_126 ?_
            refine W.eq (g2 := F0 m 129 ls [.int (mx dp (((bi qb).1) + 1))]) rfl ?_
            refine lv_istore (lv' := [(4, .int (mx dp (((bi qb).1) + 1))), (7, .ref q), (8, .ref q), (0, .ref bx), (2, .ref la), (3, .int (nI n)), (5, .int al), (6, .int (nI i))]) hx hb d_Box_init_129 hl (by decide) rfl (fun ls hl => ?_)
            refine lv_ldc (v := 1000000) hx hb hown (hts _ w325) d_Box_init_131 ?_
            refine lv_iload hx hb d_Box_init_133 (lv_at hl 6 rfl) ?_
            refine lv_aload hx hb d_Box_init_135 (lv_at hl 1 rfl) ?_
            refine hv_getN hE k_Solid hI 4 (by decide) w198 h55 rfl d_Box_init_137 ?_
            refine hv_get hE k_Box hI 4 (by decide) w337 h56 rfl d_Box_init_140 ?_
            refine lv_iadd hx hb d_Box_init_143 ?_
            refine va_mmin hx hb (hml.trans hl.1.symm) hown (hts _ w326) (hts _ w327) (hts _ w14) (hts _ w328) (by decide) (Nat.le_of_ble_eq_true rfl) (by first | decide | exact (show _ ≤ 200 by omega)) (by first | decide | exact (show _ ≤ 200 by omega)) d_Box_init_144 ?_
            refine W.eq (g2 := F0 m 147 ls [.int (if al + ((bi qb).2) < 1000000 then al + ((bi qb).2) else 1000000)]) rfl ?_
            refine lv_istore (lv' := [(5, .int (if al + ((bi qb).2) < 1000000 then al + ((bi qb).2) else 1000000)), (4, .int (mx dp (((bi qb).1) + 1))), (7, .ref q), (8, .ref q), (0, .ref bx), (2, .ref la), (3, .int (nI n)), (6, .int (nI i))]) hx hb d_Box_init_147 hl (by decide) rfl (fun ls hl => ?_)
            obtain ⟨v57, ev57⟩ : ∃ y : Int32, y = (nI i) + 1 := ⟨_, rfl⟩
            refine lv_iinc (v := v57) (lv' := [(6, .int v57), (5, .int (if al + ((bi qb).2) < 1000000 then al + ((bi qb).2) else 1000000)), (4, .int (mx dp (((bi qb).1) + 1))), (7, .ref q), (8, .ref q), (0, .ref bx), (2, .ref la), (3, .int (nI n))]) hx hb d_Box_init_149 hl (k := 7) rfl (by rw [ev57]; rfl) (by decide) rfl (fun ls hl => ?_)
            refine lv_goto (tgt := 68) hx hb d_Box_init_152 (by decide) ?_
            exact ih (i + 1) (mx dp (((bi qb).1) + 1)) (if al + ((bi qb).2) < 1000000 then al + ((bi qb).2) else 1000000) _ _ _ _ ls (by omega) h51 h52 h54 (fun z z1 z2 z3 => by rw [eg50, hv_up_ne _ _ z2]; exact hfo z z1 z2 z3) (fun j hj => by by_cases hji : j = i; (rw [hji, hq1]; simp [va_up]); (rw [show va_up gc i (some q) j = gc j from by simp [va_up, hji]]; exact hcp j (by omega))) (by rw [← heq]; simp only [initF, hiv, mn6]) hI (by rw [← nI_1, ← ev57]; exact lv_sub hl [5, 6, 7, 2, 1, 0] rfl)
      · rw [hiv] at hq2
        have hgq : g q = some (.inr (3, [.int iw, .int a9, .int b9, .int c9, .int e9])) := by rw [hfo q (hv_ne hq2 hbx (by simp [itE])) (hv_nn hq2 hf1) (hv_nn hq2 hf2)]; exact hq2
        refine lv_iload hx hb d_Box_init_68 (lv_at hl 5 rfl) ?_
        refine lv_iload_n hx hb d_Box_init_70 rfl (lv_at hl 2 rfl) ?_
        refine lv_icmp_ge (tgt := 155) hx hb d_Box_init_71 (by decide) (fun c71 => ?_) (fun c71 => ?_)
        · skip
          exact absurd c71 (nI_ge (by omega) (by omega))
        · skip
          refine lv_aload_n hx hb d_Box_init_74 rfl (lv_at hl 0 rfl) ?_
          refine hv_get hE k_Box hI 1 (by decide) w331 hgb rfl d_Box_init_75 ?_
          refine lv_iload hx hb d_Box_init_78 (lv_at hl 5 rfl) ?_
          refine lv_aload_n hx hb d_Box_init_80 rfl (lv_at hl 1 rfl) ?_
          refine lv_iload hx hb d_Box_init_81 (lv_at hl 5 rfl) ?_
          refine hv_aald hE hI 3 hgl rfl (pk_in i 100 (by omega) rfl (by omega)) d_Box_init_83 ?_
          rw [nI_cl (by omega)]
          rw [hq1]
          refine W.eq (g2 := F0 m 84 ls [.ref q, .int (nI i), .ref q17]) rfl ?_
          refine hv_aast hE hI 3 hg1 rfl hgq rfl w763 (pk_in i n (by omega) rfl (by omega)) d_Box_init_84 (fun H locs hI => ?_)
          rw [nI_cl (by omega)] at hI
          obtain ⟨g58, eg58⟩ : ∃ z : hv_M, z = hv_up g q17 (.inl (cA 3, n, .inr (.inr (.inr (.inr (va_up gc i (some q))))))) := ⟨_, rfl⟩
          have hI : hv_I D CL b0 g58 s.heap H locs := by rw [eg58]; exact hI
          have h59 : g58 bx = some (.inr (1, [.int (b2i bel), .ref q17, .ref q24, .int 0, .int 0, .int 0, .int 0, .int 0, .int 0, .int 0, .int 0, .int 0])) := by rw [eg58]; rw [hv_up_ne _ _ (hv_ne hgb hg1 (by simp))]; exact hgb
          have h60 : g58 q17 = some (.inl (cA 3, n, .inr (.inr (.inr (.inr (va_up gc i (some q))))))) := by rw [eg58]; exact hv_up_self _ _ _
          have h61 : g58 la = some (.inl (cA 3, 100, .inr (.inr (.inr (.inr gl))))) := by rw [eg58]; rw [hv_up_ne _ _ hlq]; exact hgl
          have h62 : g58 q24 = some (.inl (cA 0, n, .inl (fun _ => 0))) := by rw [eg58]; rw [hv_up_ne _ _ (hv_ne hg2 hg1 (by simp))]; exact hg2
          have h63 : g58 q = some (.inr (3, [.int iw, .int a9, .int b9, .int c9, .int e9])) := by rw [eg58]; rw [hv_up_ne _ _ (hv_ne hgq hg1 (by simp))]; exact hgq
          refine lv_aload_n hx hb d_Box_init_85 rfl (lv_at hl 1 rfl) ?_
          refine lv_iload hx hb d_Box_init_86 (lv_at hl 5 rfl) ?_
          refine hv_aald hE hI 3 h61 rfl (pk_in i 100 (by omega) rfl (by omega)) d_Box_init_88 ?_
          rw [nI_cl (by omega)]
          rw [hq1]
          refine W.eq (g2 := F0 m 89 ls [.ref q]) rfl ?_
          refine lv_astore (lv' := [(8, .ref q), (0, .ref bx), (2, .ref la), (3, .int (nI n)), (4, .int dp), (5, .int al), (6, .int (nI i))]) hx hb d_Box_init_89 hl (by decide) rfl (fun ls hl => ?_)
          refine lv_aload hx hb d_Box_init_91 (lv_at hl 0 rfl) ?_
          refine hv_instN hE hI hK h63 rfl (nm := "BoxPacker$Solid") (by decide) w321 d_Box_init_93 ?_
          refine lv_if_eq (tgt := 149) hx hb d_Box_init_96 (by decide) (fun c96 => ?_) (fun c96 => ?_)
          · skip
            obtain ⟨v64, ev64⟩ : ∃ y : Int32, y = (nI i) + 1 := ⟨_, rfl⟩
            refine lv_iinc (v := v64) (lv' := [(6, .int v64), (8, .ref q), (0, .ref bx), (2, .ref la), (3, .int (nI n)), (4, .int dp), (5, .int al)]) hx hb d_Box_init_149 hl (k := 6) rfl (by rw [ev64]; rfl) (by decide) rfl (fun ls hl => ?_)
            refine lv_goto (tgt := 68) hx hb d_Box_init_152 (by decide) ?_
            exact ih (i + 1) dp al _ _ _ _ ls (by omega) h59 h60 h62 (fun z z1 z2 z3 => by rw [eg58, hv_up_ne _ _ z2]; exact hfo z z1 z2 z3) (fun j hj => by by_cases hji : j = i; (rw [hji, hq1]; simp [va_up]); (rw [show va_up gc i (some q) j = gc j from by simp [va_up, hji]]; exact hcp j (by omega))) (by rw [← heq]; simp only [initF, hiv, mn6]) hI (by rw [← nI_1, ← ev64]; exact lv_sub hl [2, 3, 4, 5, 6, 0] rfl)
          · skip
            exact absurd rfl c96
  exact loop n 0 1 (nI n) (fun _ => none) _ _ _ ls (by omega) h30 h31 h32 (fun z z1 z2 z3 => by rw [eg29, hv_up_ne _ _ z1, eg25, hv_up_ne _ _ z3, eg21, hv_up_ne _ _ z1, eg18, hv_up_ne _ _ z2, eg15, hv_up_ne _ _ z1, eg13, hv_up_ne _ _ z1, eg11, hv_up_ne _ _ z1, eg9, hv_up_ne _ _ z1, eg7, hv_up_ne _ _ z1, eg5, hv_up_ne _ _ z1, eg3, hv_up_ne _ _ z1, eg1, hv_up_ne _ _ z1]) (fun j hj => absurd hj (Nat.not_lt_zero j)) rfl hI (lv_sub hl [3, 5, 6, 2, 1, 0] rfl)
end
section
/-! ===== fit ===== -/
theorem itE_box (x : It) (fs : List Value) : itE x ≠ .inr (1, fs) := by
  rcases x with ⟨t, w, h, d, q, z⟩ | ⟨w, a, b, d, z⟩ <;> simp [itE]
theorem itE_arr (x : It) (y : ClassId × vp_A) : itE x ≠ .inl y := by
  rcases x with ⟨t, w, h, d, q, z⟩ | ⟨w, a, b, d, z⟩ <;> simp [itE]
theorem itsAt.keep {f g : hv_M} {n : Nat} {gc : Nat → Option Nat} {iv : Nat → It} (h : itsAt f n gc iv) (hk : ∀ (z : Nat) (x : It), f z = some (itE x) → g z = f z) : itsAt g n gc iv := fun i hi => by
  obtain ⟨q, h1, h2⟩ := h i hi
  exact ⟨q, h1, by rw [hk q _ h2]; exact h2⟩
def measF (bel : Bool) (gr : Int32) (iv : Nat → It) (n : Nat) : Option (Int32 × Int32 × Int32 × (Nat → Int32)) :=
  if bel = true then (belowF iv n 0 0 0 0 (fun _ => 0)).bind (belowE gr) else alongF iv n 0 0 0 0 (fun _ => 0)
def fndF (gs hs : Nat → Int32) (ex : Int32) : Int32 × Int32 := if 0 < ex then findF gs 4 0 0 0 else if ex < 0 then findF hs 4 0 0 0 else (0, 0)
def ovF (ex od to : Int32) : Int32 := if ex < 0 ∧ od = 0 ∧ to < -ex then -ex - to else 0
abbrev FR : Type := Int32 × Int32 × Int32 × Int32 × Int32 × Int32 × Int32 × (Nat → Int32)
/-- fit: width, height, depth, excess, order, total, overfull, places; none: it refuses -/
def fitF (bel : Bool) (how size gr : Int32) (iv : Nat → It) (n : Nat) : Option FR :=
  (measF bel gr iv n).bind fun m => (givesF false iv n 0 (fun _ => 0)).bind fun gs => (givesF true iv n 0 (fun _ => 0)).bind fun hs => (fillF bel how size m.1 m.2.1).bind fun q =>
    some (if bel = true then m.1 else q.2, if bel = true then q.2 else m.2.1, m.2.2.1, q.1, (fndF gs hs q.1).1, (fndF gs hs q.1).2, ovF q.1 (fndF gs hs q.1).1 (fndF gs hs q.1).2,
      addS q.1 (fndF gs hs q.1).1 (fndF gs hs q.1).2 (ovF q.1 (fndF gs hs q.1).1 (fndF gs hs q.1).2) iv n m.2.2.2)

set_option maxHeartbeats 4000000 in
set_option maxRecDepth 100000 in
theorem c_Box_fit (l : Launch) (hl0 : l.stackTraces = false) (b0 : Nat) (D : va_G) (cA : Nat → ClassId) (f : hv_M) (bx ca pa n : Nat) (bel : Bool) (dp al how size gr : Int32) (gc : Nat → Option Nat) (iv : Nat → It) (hbx : f bx = some (.inr (1, [.int (b2i bel), .ref ca, .ref pa, .int dp, .int al, .int 0, .int 0, .int 0, .int 0, .int 0, .int 0, .int 0]))) (hca : f ca = some (.inl (cA 3, n, .inr (.inr (.inr (.inr gc)))))) (hpa : f pa = some (.inl (cA 0, n, .inl (fun _ => 0)))) (hit : itsAt f n gc iv) (hor : ordsIn n iv) (hn : n ≤ 100) : hv_Met l y_Box_fit [Cond.code y_Box_fit b_Box_fit 6 none] (RM 4 7 40) b0 (Fa D cA) D CL [.ref bx, .int how, .int size, .int gr] f (fun v g => v = none ∧ ∃ (w h d ex od to ov : Int32) (gp : Nat → Int32), fitF bel how size gr iv n = some (w, h, d, ex, od, to, ov, gp) ∧ g bx = some (.inr (1, [.int (b2i bel), .ref ca, .ref pa, .int dp, .int al, .int w, .int h, .int d, .int ex, .int od, .int to, .int ov])) ∧ g pa = some (.inl (cA 0, n, .inl gp)) ∧ ∀ z x, z ≠ bx → z ≠ pa → f z = some x → g z = some x) (fun E g => E = "java/lang/IllegalStateException" ∧ fitF bel how size gr iv n = none ∧ ∀ z x, z ≠ bx → z ≠ pa → f z = some x → g z = some x) := by
  refine hv_Met.of (own := "BoxPacker$Box") (by decide) rfl (Nat.le_of_ble_eq_true rfl) ?_
  intro p e s m below meth c hE hml hout hr hlocks hname hK hI ls hl
  have hl : lv_has ls 6 [(0, .ref bx), (1, .int how), (2, .int size), (3, .int gr)] := hl
  obtain ⟨hx, hb, hown, hts, hVK⟩ := id hE
  have hkp : ∀ z x, z ≠ bx → z ≠ pa → f z = some x → f z = some x := fun z x _ _ hz => hz
  refine lv_aload_n hx hb d_Box_fit_0 rfl (lv_at hl 0 rfl) ?_
  refine hv_get hE k_Box hI 0 (by decide) w329 hbx rfl d_Box_fit_1 ?_
  refine lv_if_eq (tgt := 15) hx hb d_Box_fit_4 (by decide) (fun c4 => ?_) (fun c4 => ?_)
  · skip
    have hbl : ¬ bel = true := by rw [b2i_ne.mp c4]; decide
    refine lv_aload_n hx hb d_Box_fit_15 rfl (lv_at hl 0 rfl) ?_
    refine hv_V (As := []) (rest := []) hE hml hK hI (c_Box_measureAlong l hl0 b0 D cA f bx ca pa n (b2i bel) dp al 0 0 0 0 gc (fun _ => 0) iv hbx hca hpa hit hn) cd_Box_measureAlong w414 w416 ws6 hbx rfl rfl hl.1 (Nat.le_of_ble_eq_true rfl) d_Box_fit_16 ⟨by decide, by decide⟩ ⟨by decide, by decide⟩ (fun v9 g1 H locs hp hI => ?_) (fun q9 E9 ce9 g9 H locs hp hI hce hcv hcl => ?_)
    rotate_left
    · skip
      obtain ⟨hE9, em, hk9⟩ := hp
      rw [hE9] at hcl
      exact hv_out hout hlocks hI hK hce hcv hcl ⟨rfl, by simp only [fitF, measF, if_neg hbl, em, Option.bind_none], fun z x z1 z2 hz => by rw [hk9 z z1 z2]; exact hz⟩ (by decide) (by decide)
    obtain ⟨hv, w, h, d, gp, em, hb9, hp9, ho9⟩ := hp
    rw [hv]
    refine W.eq (g2 := F0 m 19 ls []) rfl ?_
    have em : measF bel gr iv n = some (w, h, d, gp) := by rw [measF, if_neg hbl]; exact em
    have hit : itsAt g1 n gc iv := hit.keep (fun z x hz => ho9 z (hv_ne hz hbx (itE_box _ _)) (hv_ne hz hpa (itE_arr _ _)))
    have hkp : ∀ z x, z ≠ bx → z ≠ pa → f z = some x → g1 z = some x := fun z x z1 z2 hz => by rw [ho9 z z1 z2]; exact hz
    have h2 : g1 ca = some (.inl (cA 3, n, .inr (.inr (.inr (.inr gc))))) := by rw [ho9 ca (hv_ne hca hbx (by simp)) (hv_ne hca hpa (by simp))]; exact hca
    refine lv_aload_n hx hb d_Box_fit_19 rfl (lv_at hl 0 rfl) ?_
    refine lv_iconst (v := 0) hx hb d_Box_fit_20 (by decide) ?_
    refine hv_V (As := [.int 0]) (rest := []) hE hml hK hI (c_Box_gives l hl0 b0 D cA g1 bx ca pa n (b2i bel) dp al w h d 0 0 0 0 false gc iv hb9 h2 hit hor hn) cd_Box_gives w418 w420 ws7 hb9 rfl rfl hl.1 (Nat.le_of_ble_eq_true rfl) d_Box_fit_21 ⟨by decide, by decide⟩ ⟨by decide, by decide⟩ (fun v9 g3 H locs hp hI => ?_) (fun q9 E9 ce9 g9 H locs hp hI hce hcv hcl => ?_)
    rotate_left
    · skip
      obtain ⟨hE9, e9, hk9⟩ := hp
      rw [hE9] at hcl
      exact hv_out hout hlocks hI hK hce hcv hcl ⟨rfl, by simp only [fitF, em, e9, Option.bind_none, Option.bind_some], fun z x z1 z2 hz => hk9 z x (hkp z x z1 z2 hz)⟩ (by decide) (by decide)
    obtain ⟨qs, gs, hv, hnqs, e1, egqs⟩ := hp
    rw [hv]
    refine W.eq (g2 := F0 m 24 ls [.ref qs]) rfl ?_
    have hit : itsAt g3 n gc iv := hit.keep (fun z x hz => by rw [egqs, hv_up_ne _ _ (hv_nn hz hnqs)])
    have hkp : ∀ z x, z ≠ bx → z ≠ pa → f z = some x → g3 z = some x := fun z x z1 z2 hz => by rw [egqs, hv_up_ne _ _ (hv_nn (hkp z x z1 z2 hz) hnqs)]; exact hkp z x z1 z2 hz
    have hxqs : pa ≠ qs := hv_nn hp9 hnqs
    have hgqs : g3 qs = some (.inl (cA 0, 4, .inl gs)) := by rw [egqs]; exact hv_up_self _ _ _
    have h4 : g3 bx = some (.inr (1, [.int (b2i bel), .ref ca, .ref pa, .int dp, .int al, .int w, .int h, .int d, .int 0, .int 0, .int 0, .int 0])) := by rw [egqs, hv_up_ne _ _ (hv_nn hb9 hnqs)]; exact hb9
    have h5 : g3 ca = some (.inl (cA 3, n, .inr (.inr (.inr (.inr gc))))) := by rw [egqs, hv_up_ne _ _ (hv_nn h2 hnqs)]; exact h2
    have h6 : g3 pa = some (.inl (cA 0, n, .inl gp)) := by rw [egqs, hv_up_ne _ _ (hv_nn hp9 hnqs)]; exact hp9
    refine lv_astore (lv' := [(4, .ref qs), (0, .ref bx), (1, .int how), (2, .int size), (3, .int gr)]) hx hb d_Box_fit_24 hl (by decide) rfl (fun ls hl => ?_)
    refine lv_aload_n hx hb d_Box_fit_26 rfl (lv_at hl 1 rfl) ?_
    refine lv_iconst (v := 1) hx hb d_Box_fit_27 (by decide) ?_
    refine hv_V (As := [.int 1]) (rest := []) hE hml hK hI (c_Box_gives l hl0 b0 D cA g3 bx ca pa n (b2i bel) dp al w h d 0 0 0 0 true gc iv h4 h5 hit hor hn) cd_Box_gives w418 w420 ws7 h4 rfl rfl hl.1 (Nat.le_of_ble_eq_true rfl) d_Box_fit_28 ⟨by decide, by decide⟩ ⟨by decide, by decide⟩ (fun v9 g7 H locs hp hI => ?_) (fun q9 E9 ce9 g9 H locs hp hI hce hcv hcl => ?_)
    rotate_left
    · skip
      obtain ⟨hE9, e9, hk9⟩ := hp
      rw [hE9] at hcl
      exact hv_out hout hlocks hI hK hce hcv hcl ⟨rfl, by simp only [fitF, em, e1, e9, Option.bind_none, Option.bind_some], fun z x z1 z2 hz => hk9 z x (hkp z x z1 z2 hz)⟩ (by decide) (by decide)
    obtain ⟨qt, hs, hv, hnqt, e2, egqt⟩ := hp
    rw [hv]
    refine W.eq (g2 := F0 m 31 ls [.ref qt]) rfl ?_
    have hit : itsAt g7 n gc iv := hit.keep (fun z x hz => by rw [egqt, hv_up_ne _ _ (hv_nn hz hnqt)])
    have hkp : ∀ z x, z ≠ bx → z ≠ pa → f z = some x → g7 z = some x := fun z x z1 z2 hz => by rw [egqt, hv_up_ne _ _ (hv_nn (hkp z x z1 z2 hz) hnqt)]; exact hkp z x z1 z2 hz
    have hxqt : pa ≠ qt := hv_nn h6 hnqt
    have hgqt : g7 qt = some (.inl (cA 0, 4, .inl hs)) := by rw [egqt]; exact hv_up_self _ _ _
    have hyq : qs ≠ qt := hv_nn hgqs hnqt
    have h8 : g7 bx = some (.inr (1, [.int (b2i bel), .ref ca, .ref pa, .int dp, .int al, .int w, .int h, .int d, .int 0, .int 0, .int 0, .int 0])) := by rw [egqt, hv_up_ne _ _ (hv_nn h4 hnqt)]; exact h4
    have h9 : g7 ca = some (.inl (cA 3, n, .inr (.inr (.inr (.inr gc))))) := by rw [egqt, hv_up_ne _ _ (hv_nn h5 hnqt)]; exact h5
    have h10 : g7 pa = some (.inl (cA 0, n, .inl gp)) := by rw [egqt, hv_up_ne _ _ (hv_nn h6 hnqt)]; exact h6
    have h11 : g7 qs = some (.inl (cA 0, 4, .inl gs)) := by rw [egqt, hv_up_ne _ _ (hv_nn hgqs hnqt)]; exact hgqs
    refine lv_astore (lv' := [(5, .ref qt), (4, .ref qs), (0, .ref bx), (1, .int how), (2, .int size), (3, .int gr)]) hx hb d_Box_fit_31 hl (by decide) rfl (fun ls hl => ?_)
    refine lv_aload_n hx hb d_Box_fit_33 rfl (lv_at hl 2 rfl) ?_
    refine lv_iload_n hx hb d_Box_fit_34 rfl (lv_at hl 3 rfl) ?_
    refine lv_iload_n hx hb d_Box_fit_35 rfl (lv_at hl 4 rfl) ?_
    refine hv_V (As := [.int how, .int size]) (rest := []) hE hml hK hI (c_Box_fillUp l hl0 b0 D cA g7 bx ca pa bel dp al w h d 0 0 0 how size h8) cd_Box_fillUp w430 w432 ws10 h8 rfl rfl hl.1 (Nat.le_of_ble_eq_true rfl) d_Box_fit_36 ⟨by decide, by decide⟩ ⟨by decide, by decide⟩ (fun v9 g12 H locs hp hI => ?_) (fun q9 E9 ce9 g9 H locs hp hI hce hcv hcl => ?_)
    rotate_left
    · skip
      obtain ⟨hE9, e9, hk9⟩ := hp
      rw [hE9] at hcl
      exact hv_out hout hlocks hI hK hce hcv hcl ⟨rfl, by simp only [fitF, em, e1, e2, e9, Option.bind_none, Option.bind_some], fun z x z1 z2 hz => by rw [hk9 z z1]; exact hkp z x z1 z2 hz⟩ (by decide) (by decide)
    obtain ⟨hv, ex, ln, e3, eg3⟩ := hp
    rw [hv]
    refine W.eq (g2 := F0 m 39 ls []) rfl ?_
    obtain ⟨w1, ew1⟩ : ∃ z : Int32, z = if bel = true then w else ln := ⟨_, rfl⟩
    obtain ⟨h1, eh1⟩ : ∃ z : Int32, z = if bel = true then ln else h := ⟨_, rfl⟩
    rw [← ew1, ← eh1] at eg3
    have hb3 : g12 bx = some (.inr (1, [.int (b2i bel), .ref ca, .ref pa, .int dp, .int al, .int w1, .int h1, .int d, .int ex, .int 0, .int 0, .int 0])) := by rw [eg3]; exact hv_up_self _ _ _
    have hit : itsAt g12 n gc iv := hit.keep (fun z x hz => by rw [eg3, hv_up_ne _ _ (hv_ne hz h8 (itE_box _ _))])
    have hkp : ∀ z x, z ≠ bx → z ≠ pa → f z = some x → g12 z = some x := fun z x z1 z2 hz => by rw [eg3, hv_up_ne _ _ z1]; exact hkp z x z1 z2 hz
    have h13 : g12 ca = some (.inl (cA 3, n, .inr (.inr (.inr (.inr gc))))) := by rw [eg3, hv_up_ne _ _ (hv_ne h9 h8 (by simp))]; exact h9
    have h14 : g12 pa = some (.inl (cA 0, n, .inl gp)) := by rw [eg3, hv_up_ne _ _ (hv_ne h10 h8 (by simp))]; exact h10
    have h15 : g12 qs = some (.inl (cA 0, 4, .inl gs)) := by rw [eg3, hv_up_ne _ _ (hv_ne h11 h8 (by simp))]; exact h11
    have h16 : g12 qt = some (.inl (cA 0, 4, .inl hs)) := by rw [eg3, hv_up_ne _ _ (hv_ne hgqt h8 (by simp))]; exact hgqt
    refine lv_aload_n hx hb d_Box_fit_39 rfl (lv_at hl 2 rfl) ?_
    refine hv_get hE k_Box hI 8 (by decide) w345 hb3 rfl d_Box_fit_40 ?_
    refine lv_if_le (tgt := 55) hx hb d_Box_fit_43 (by decide) (fun c43 => ?_) (fun c43 => ?_)
    · skip
      refine lv_aload_n hx hb d_Box_fit_55 rfl (lv_at hl 2 rfl) ?_
      refine hv_get hE k_Box hI 8 (by decide) w345 hb3 rfl d_Box_fit_56 ?_
      refine lv_if_ge (tgt := 68) hx hb d_Box_fit_59 (by decide) (fun c59 => ?_) (fun c59 => ?_)
      · skip
        obtain ⟨o, t, eo, et, hot⟩ : ∃ o t : Int32, o = 0 ∧ t = 0 ∧ fndF gs hs ex = (o, t) := ⟨0, 0, rfl, rfl, by rw [fndF, if_neg (Int32.not_lt.mpr c43), if_neg (Int32.not_lt.mpr c59)]⟩
        have hb4 : g12 bx = some (.inr (1, [.int (b2i bel), .ref ca, .ref pa, .int dp, .int al, .int w1, .int h1, .int d, .int ex, .int o, .int t, .int 0])) := by rw [eo, et]; exact hb3
        refine lv_aload_n hx hb d_Box_fit_68 rfl (lv_at hl 2 rfl) ?_
        refine hv_get hE k_Box hI 8 (by decide) w345 hb4 rfl d_Box_fit_69 ?_
        refine lv_if_ge (tgt := 108) hx hb d_Box_fit_72 (by decide) (fun c72 => ?_) (fun c72 => ?_)
        · skip
          have hov : ovF ex o t = 0 := if_neg (fun q => Int32.not_lt.mpr c72 q.1)
          refine lv_aload_n hx hb d_Box_fit_108 rfl (lv_at hl 2 rfl) ?_
          refine hv_V (As := []) (rest := []) hE hml hK hI (c_Box_addShares l hl0 b0 D cA g12 bx ca pa n (b2i bel) dp al w1 h1 d ex o t 0 gc gp iv hb4 h13 h14 hit hn) cd_Box_addShares w438 w440 ws12 hb4 rfl rfl hl.1 (Nat.le_of_ble_eq_true rfl) d_Box_fit_109 ⟨by decide, by decide⟩ ⟨by decide, by decide⟩ (fun v9 g17 H locs hp hI => ?_) (fun q9 E9 ce9 g9 H locs hp => hp.elim)
          obtain ⟨hv, eg5⟩ := hp
          rw [hv]
          refine W.eq (g2 := F0 m 112 ls []) rfl ?_
          have hp5 : g17 pa = some (.inl (cA 0, n, .inl (addS ex o t 0 iv n gp))) := by rw [eg5]; exact hv_up_self _ _ _
          have h18 : g17 bx = some (.inr (1, [.int (b2i bel), .ref ca, .ref pa, .int dp, .int al, .int w1, .int h1, .int d, .int ex, .int o, .int t, .int 0])) := by rw [eg5, hv_up_ne _ _ (hv_ne hb4 h14 (by simp))]; exact hb4
          have h19 : g17 ca = some (.inl (cA 3, n, .inr (.inr (.inr (.inr gc))))) := by rw [eg5, hv_up_ne _ _ (hv_ne h13 h14 (by simp))]; exact h13
          have h20 : g17 qs = some (.inl (cA 0, 4, .inl gs)) := by rw [eg5, hv_up_ne _ _ (Ne.symm hxqs)]; exact h15
          have h21 : g17 qt = some (.inl (cA 0, 4, .inl hs)) := by rw [eg5, hv_up_ne _ _ (Ne.symm hxqt)]; exact h16
          exact hv_vret hE hr hlocks hI hK (⟨rfl, w1, h1, d, ex, o, t, 0, addS ex o t 0 iv n gp, by simp only [fitF, em, e1, e2, e3, Option.bind_some, hot, hov, ← ew1, ← eh1], h18, hp5, fun z x z1 z2 hz => by rw [eg5, hv_up_ne _ _ z2]; exact hkp z x z1 z2 hz⟩) (by decide) (by decide) d_Box_fit_112
        · skip
          exact absurd c59 c72
      · skip
        refine lv_aload_n hx hb d_Box_fit_62 rfl (lv_at hl 2 rfl) ?_
        refine lv_aload hx hb d_Box_fit_63 (lv_at hl 0 rfl) ?_
        refine hv_V (As := [.ref qt]) (rest := []) hE hml hK hI (c_Box_findTotal l hl0 b0 D cA g12 bx ca pa qt (b2i bel) dp al w1 h1 d ex 0 0 0 hs hb3 h16) cd_Box_findTotal w434 w436 ws11 hb3 rfl rfl hl.1 (Nat.le_of_ble_eq_true rfl) d_Box_fit_65 ⟨by decide, by decide⟩ ⟨by decide, by decide⟩ (fun v9 g22 H locs hp hI => ?_) (fun q9 E9 ce9 g9 H locs hp => hp.elim)
        obtain ⟨hv, o, t, eo, eg4⟩ := hp
        rw [hv]
        refine W.eq (g2 := F0 m 68 ls []) rfl ?_
        have hb4 : g22 bx = some (.inr (1, [.int (b2i bel), .ref ca, .ref pa, .int dp, .int al, .int w1, .int h1, .int d, .int ex, .int o, .int t, .int 0])) := by rw [eg4]; exact hv_up_self _ _ _
        have hit : itsAt g22 n gc iv := hit.keep (fun z x hz => by rw [eg4, hv_up_ne _ _ (hv_ne hz hb3 (itE_box _ _))])
        have hkp : ∀ z x, z ≠ bx → z ≠ pa → f z = some x → g22 z = some x := fun z x z1 z2 hz => by rw [eg4, hv_up_ne _ _ z1]; exact hkp z x z1 z2 hz
        have h23 : g22 ca = some (.inl (cA 3, n, .inr (.inr (.inr (.inr gc))))) := by rw [eg4, hv_up_ne _ _ (hv_ne h13 hb3 (by simp))]; exact h13
        have h24 : g22 pa = some (.inl (cA 0, n, .inl gp)) := by rw [eg4, hv_up_ne _ _ (hv_ne h14 hb3 (by simp))]; exact h14
        have h25 : g22 qs = some (.inl (cA 0, 4, .inl gs)) := by rw [eg4, hv_up_ne _ _ (hv_ne h15 hb3 (by simp))]; exact h15
        have h26 : g22 qt = some (.inl (cA 0, 4, .inl hs)) := by rw [eg4, hv_up_ne _ _ (hv_ne h16 hb3 (by simp))]; exact h16
        have hot : fndF gs hs ex = (o, t) := by rw [fndF, if_neg (Int32.not_lt.mpr c43), if_pos (Int32.not_le.mp c59)]; exact eo
        refine lv_aload_n hx hb d_Box_fit_68 rfl (lv_at hl 2 rfl) ?_
        refine hv_get hE k_Box hI 8 (by decide) w345 hb4 rfl d_Box_fit_69 ?_
        refine lv_if_ge (tgt := 108) hx hb d_Box_fit_72 (by decide) (fun c72 => ?_) (fun c72 => ?_)
        · skip
          exact absurd c72 c59
        · skip
          refine lv_aload_n hx hb d_Box_fit_75 rfl (lv_at hl 2 rfl) ?_
          refine hv_get hE k_Box hI 9 (by decide) w347 hb4 rfl d_Box_fit_76 ?_
          refine lv_if_ne (tgt := 108) hx hb d_Box_fit_79 (by decide) (fun c79 => ?_) (fun c79 => ?_)
          · skip
            have hov : ovF ex o t = 0 := if_neg (fun q => c79 q.2.1)
            refine lv_aload_n hx hb d_Box_fit_108 rfl (lv_at hl 2 rfl) ?_
            refine hv_V (As := []) (rest := []) hE hml hK hI (c_Box_addShares l hl0 b0 D cA g22 bx ca pa n (b2i bel) dp al w1 h1 d ex o t 0 gc gp iv hb4 h23 h24 hit hn) cd_Box_addShares w438 w440 ws12 hb4 rfl rfl hl.1 (Nat.le_of_ble_eq_true rfl) d_Box_fit_109 ⟨by decide, by decide⟩ ⟨by decide, by decide⟩ (fun v9 g27 H locs hp hI => ?_) (fun q9 E9 ce9 g9 H locs hp => hp.elim)
            obtain ⟨hv, eg5⟩ := hp
            rw [hv]
            refine W.eq (g2 := F0 m 112 ls []) rfl ?_
            have hp5 : g27 pa = some (.inl (cA 0, n, .inl (addS ex o t 0 iv n gp))) := by rw [eg5]; exact hv_up_self _ _ _
            have h28 : g27 bx = some (.inr (1, [.int (b2i bel), .ref ca, .ref pa, .int dp, .int al, .int w1, .int h1, .int d, .int ex, .int o, .int t, .int 0])) := by rw [eg5, hv_up_ne _ _ (hv_ne hb4 h24 (by simp))]; exact hb4
            have h29 : g27 ca = some (.inl (cA 3, n, .inr (.inr (.inr (.inr gc))))) := by rw [eg5, hv_up_ne _ _ (hv_ne h23 h24 (by simp))]; exact h23
            have h30 : g27 qs = some (.inl (cA 0, 4, .inl gs)) := by rw [eg5, hv_up_ne _ _ (Ne.symm hxqs)]; exact h25
            have h31 : g27 qt = some (.inl (cA 0, 4, .inl hs)) := by rw [eg5, hv_up_ne _ _ (Ne.symm hxqt)]; exact h26
            exact hv_vret hE hr hlocks hI hK (⟨rfl, w1, h1, d, ex, o, t, 0, addS ex o t 0 iv n gp, by simp only [fitF, em, e1, e2, e3, Option.bind_some, hot, hov, ← ew1, ← eh1], h28, hp5, fun z x z1 z2 hz => by rw [eg5, hv_up_ne _ _ z2]; exact hkp z x z1 z2 hz⟩) (by decide) (by decide) d_Box_fit_112
          · skip
            refine lv_aload_n hx hb d_Box_fit_82 rfl (lv_at hl 2 rfl) ?_
            refine hv_get hE k_Box hI 10 (by decide) w349 hb4 rfl d_Box_fit_83 ?_
            refine lv_aload_n hx hb d_Box_fit_86 rfl (lv_at hl 2 rfl) ?_
            refine hv_get hE k_Box hI 8 (by decide) w345 hb4 rfl d_Box_fit_87 ?_
            refine lv_ineg hx hb d_Box_fit_90 ?_
            refine lv_icmp_ge (tgt := 108) hx hb d_Box_fit_91 (by decide) (fun c91 => ?_) (fun c91 => ?_)
            · skip
              have hov : ovF ex o t = 0 := if_neg (fun q => Int32.not_lt.mpr c91 q.2.2)
              refine lv_aload_n hx hb d_Box_fit_108 rfl (lv_at hl 2 rfl) ?_
              refine hv_V (As := []) (rest := []) hE hml hK hI (c_Box_addShares l hl0 b0 D cA g22 bx ca pa n (b2i bel) dp al w1 h1 d ex o t 0 gc gp iv hb4 h23 h24 hit hn) cd_Box_addShares w438 w440 ws12 hb4 rfl rfl hl.1 (Nat.le_of_ble_eq_true rfl) d_Box_fit_109 ⟨by decide, by decide⟩ ⟨by decide, by decide⟩ (fun v9 g32 H locs hp hI => ?_) (fun q9 E9 ce9 g9 H locs hp => hp.elim)
              obtain ⟨hv, eg5⟩ := hp
              rw [hv]
              refine W.eq (g2 := F0 m 112 ls []) rfl ?_
              have hp5 : g32 pa = some (.inl (cA 0, n, .inl (addS ex o t 0 iv n gp))) := by rw [eg5]; exact hv_up_self _ _ _
              have h33 : g32 bx = some (.inr (1, [.int (b2i bel), .ref ca, .ref pa, .int dp, .int al, .int w1, .int h1, .int d, .int ex, .int o, .int t, .int 0])) := by rw [eg5, hv_up_ne _ _ (hv_ne hb4 h24 (by simp))]; exact hb4
              have h34 : g32 ca = some (.inl (cA 3, n, .inr (.inr (.inr (.inr gc))))) := by rw [eg5, hv_up_ne _ _ (hv_ne h23 h24 (by simp))]; exact h23
              have h35 : g32 qs = some (.inl (cA 0, 4, .inl gs)) := by rw [eg5, hv_up_ne _ _ (Ne.symm hxqs)]; exact h25
              have h36 : g32 qt = some (.inl (cA 0, 4, .inl hs)) := by rw [eg5, hv_up_ne _ _ (Ne.symm hxqt)]; exact h26
              exact hv_vret hE hr hlocks hI hK (⟨rfl, w1, h1, d, ex, o, t, 0, addS ex o t 0 iv n gp, by simp only [fitF, em, e1, e2, e3, Option.bind_some, hot, hov, ← ew1, ← eh1], h33, hp5, fun z x z1 z2 hz => by rw [eg5, hv_up_ne _ _ z2]; exact hkp z x z1 z2 hz⟩) (by decide) (by decide) d_Box_fit_112
            · skip
              have hov : ovF ex o t = -ex - t := if_pos ⟨Int32.not_le.mp c72, c79, Int32.not_le.mp c91⟩
              refine lv_aload_n hx hb d_Box_fit_94 rfl (lv_at hl 2 rfl) ?_
              refine lv_aload_n hx hb d_Box_fit_95 rfl (lv_at hl 2 rfl) ?_
              refine hv_get hE k_Box hI 8 (by decide) w345 hb4 rfl d_Box_fit_96 ?_
              refine lv_ineg hx hb d_Box_fit_99 ?_
              refine lv_aload_n hx hb d_Box_fit_100 rfl (lv_at hl 2 rfl) ?_
              refine hv_get hE k_Box hI 10 (by decide) w349 hb4 rfl d_Box_fit_101 ?_
              refine lv_isub hx hb d_Box_fit_104 ?_
              refine hv_put hE k_Box hI 11 (by decide) w351 hb4 rfl rfl rfl (Nat.le_of_ble_eq_true rfl) d_Box_fit_105 (fun H locs hI => ?_)
              obtain ⟨g37, eg37⟩ : ∃ z : hv_M, z = hv_up g22 bx (.inr (1, [.int (b2i bel), .ref ca, .ref pa, .int dp, .int al, .int w1, .int h1, .int d, .int ex, .int o, .int t, .int ((-ex) - t)])) := ⟨_, rfl⟩
              have hI : hv_I D CL b0 g37 s.heap H locs := by rw [eg37]; exact hI
              have h38 : g37 bx = some (.inr (1, [.int (b2i bel), .ref ca, .ref pa, .int dp, .int al, .int w1, .int h1, .int d, .int ex, .int o, .int t, .int ((-ex) - t)])) := by rw [eg37]; exact hv_up_self _ _ _
              have h39 : g37 ca = some (.inl (cA 3, n, .inr (.inr (.inr (.inr gc))))) := by rw [eg37]; rw [hv_up_ne _ _ (hv_ne h23 hb4 (by simp))]; exact h23
              have h40 : g37 pa = some (.inl (cA 0, n, .inl gp)) := by rw [eg37]; rw [hv_up_ne _ _ (hv_ne h24 hb4 (by simp))]; exact h24
              have h41 : g37 qs = some (.inl (cA 0, 4, .inl gs)) := by rw [eg37]; rw [hv_up_ne _ _ (hv_ne h25 hb4 (by simp))]; exact h25
              have h42 : g37 qt = some (.inl (cA 0, 4, .inl hs)) := by rw [eg37]; rw [hv_up_ne _ _ (hv_ne h26 hb4 (by simp))]; exact h26
              refine lv_aload_n hx hb d_Box_fit_108 rfl (lv_at hl 2 rfl) ?_
              have hit : itsAt g37 n gc iv := hit.keep (fun z x hz => by rw [eg37, hv_up_ne _ _ (hv_ne hz hb4 (itE_box _ _))])
              have hkp : ∀ z x, z ≠ bx → z ≠ pa → f z = some x → g37 z = some x := fun z x z1 z2 hz => by rw [eg37, hv_up_ne _ _ z1]; exact hkp z x z1 z2 hz
              refine hv_V (As := []) (rest := []) hE hml hK hI (c_Box_addShares l hl0 b0 D cA g37 bx ca pa n (b2i bel) dp al w1 h1 d ex o t ((-ex) - t) gc gp iv h38 h39 h40 hit hn) cd_Box_addShares w438 w440 ws12 h38 rfl rfl hl.1 (Nat.le_of_ble_eq_true rfl) d_Box_fit_109 ⟨by decide, by decide⟩ ⟨by decide, by decide⟩ (fun v9 g43 H locs hp hI => ?_) (fun q9 E9 ce9 g9 H locs hp => hp.elim)
              obtain ⟨hv, eg5⟩ := hp
              rw [hv]
              refine W.eq (g2 := F0 m 112 ls []) rfl ?_
              have hp5 : g43 pa = some (.inl (cA 0, n, .inl (addS ex o t ((-ex) - t) iv n gp))) := by rw [eg5]; exact hv_up_self _ _ _
              have h44 : g43 bx = some (.inr (1, [.int (b2i bel), .ref ca, .ref pa, .int dp, .int al, .int w1, .int h1, .int d, .int ex, .int o, .int t, .int ((-ex) - t)])) := by rw [eg5, hv_up_ne _ _ (hv_ne h38 h40 (by simp))]; exact h38
              have h45 : g43 ca = some (.inl (cA 3, n, .inr (.inr (.inr (.inr gc))))) := by rw [eg5, hv_up_ne _ _ (hv_ne h39 h40 (by simp))]; exact h39
              have h46 : g43 qs = some (.inl (cA 0, 4, .inl gs)) := by rw [eg5, hv_up_ne _ _ (Ne.symm hxqs)]; exact h41
              have h47 : g43 qt = some (.inl (cA 0, 4, .inl hs)) := by rw [eg5, hv_up_ne _ _ (Ne.symm hxqt)]; exact h42
              exact hv_vret hE hr hlocks hI hK (⟨rfl, w1, h1, d, ex, o, t, (-ex) - t, addS ex o t ((-ex) - t) iv n gp, by simp only [fitF, em, e1, e2, e3, Option.bind_some, hot, hov, ← ew1, ← eh1], h44, hp5, fun z x z1 z2 hz => by rw [eg5, hv_up_ne _ _ z2]; exact hkp z x z1 z2 hz⟩) (by decide) (by decide) d_Box_fit_112
    · skip
      refine lv_aload_n hx hb d_Box_fit_46 rfl (lv_at hl 2 rfl) ?_
      refine lv_aload hx hb d_Box_fit_47 (lv_at hl 1 rfl) ?_
      refine hv_V (As := [.ref qs]) (rest := []) hE hml hK hI (c_Box_findTotal l hl0 b0 D cA g12 bx ca pa qs (b2i bel) dp al w1 h1 d ex 0 0 0 gs hb3 h15) cd_Box_findTotal w434 w436 ws11 hb3 rfl rfl hl.1 (Nat.le_of_ble_eq_true rfl) d_Box_fit_49 ⟨by decide, by decide⟩ ⟨by decide, by decide⟩ (fun v9 g48 H locs hp hI => ?_) (fun q9 E9 ce9 g9 H locs hp => hp.elim)
      obtain ⟨hv, o, t, eo, eg4⟩ := hp
      rw [hv]
      refine W.eq (g2 := F0 m 52 ls []) rfl ?_
      have hb4 : g48 bx = some (.inr (1, [.int (b2i bel), .ref ca, .ref pa, .int dp, .int al, .int w1, .int h1, .int d, .int ex, .int o, .int t, .int 0])) := by rw [eg4]; exact hv_up_self _ _ _
      have hit : itsAt g48 n gc iv := hit.keep (fun z x hz => by rw [eg4, hv_up_ne _ _ (hv_ne hz hb3 (itE_box _ _))])
      have hkp : ∀ z x, z ≠ bx → z ≠ pa → f z = some x → g48 z = some x := fun z x z1 z2 hz => by rw [eg4, hv_up_ne _ _ z1]; exact hkp z x z1 z2 hz
      have h49 : g48 ca = some (.inl (cA 3, n, .inr (.inr (.inr (.inr gc))))) := by rw [eg4, hv_up_ne _ _ (hv_ne h13 hb3 (by simp))]; exact h13
      have h50 : g48 pa = some (.inl (cA 0, n, .inl gp)) := by rw [eg4, hv_up_ne _ _ (hv_ne h14 hb3 (by simp))]; exact h14
      have h51 : g48 qs = some (.inl (cA 0, 4, .inl gs)) := by rw [eg4, hv_up_ne _ _ (hv_ne h15 hb3 (by simp))]; exact h15
      have h52 : g48 qt = some (.inl (cA 0, 4, .inl hs)) := by rw [eg4, hv_up_ne _ _ (hv_ne h16 hb3 (by simp))]; exact h16
      have hot : fndF gs hs ex = (o, t) := by rw [fndF, if_pos (Int32.not_le.mp c43)]; exact eo
      refine lv_goto (tgt := 68) hx hb d_Box_fit_52 (by decide) ?_
      refine lv_aload_n hx hb d_Box_fit_68 rfl (lv_at hl 2 rfl) ?_
      refine hv_get hE k_Box hI 8 (by decide) w345 hb4 rfl d_Box_fit_69 ?_
      refine lv_if_ge (tgt := 108) hx hb d_Box_fit_72 (by decide) (fun c72 => ?_) (fun c72 => ?_)
      · skip
        have hov : ovF ex o t = 0 := if_neg (fun q => Int32.not_lt.mpr c72 q.1)
        refine lv_aload_n hx hb d_Box_fit_108 rfl (lv_at hl 2 rfl) ?_
        refine hv_V (As := []) (rest := []) hE hml hK hI (c_Box_addShares l hl0 b0 D cA g48 bx ca pa n (b2i bel) dp al w1 h1 d ex o t 0 gc gp iv hb4 h49 h50 hit hn) cd_Box_addShares w438 w440 ws12 hb4 rfl rfl hl.1 (Nat.le_of_ble_eq_true rfl) d_Box_fit_109 ⟨by decide, by decide⟩ ⟨by decide, by decide⟩ (fun v9 g53 H locs hp hI => ?_) (fun q9 E9 ce9 g9 H locs hp => hp.elim)
        obtain ⟨hv, eg5⟩ := hp
        rw [hv]
        refine W.eq (g2 := F0 m 112 ls []) rfl ?_
        have hp5 : g53 pa = some (.inl (cA 0, n, .inl (addS ex o t 0 iv n gp))) := by rw [eg5]; exact hv_up_self _ _ _
        have h54 : g53 bx = some (.inr (1, [.int (b2i bel), .ref ca, .ref pa, .int dp, .int al, .int w1, .int h1, .int d, .int ex, .int o, .int t, .int 0])) := by rw [eg5, hv_up_ne _ _ (hv_ne hb4 h50 (by simp))]; exact hb4
        have h55 : g53 ca = some (.inl (cA 3, n, .inr (.inr (.inr (.inr gc))))) := by rw [eg5, hv_up_ne _ _ (hv_ne h49 h50 (by simp))]; exact h49
        have h56 : g53 qs = some (.inl (cA 0, 4, .inl gs)) := by rw [eg5, hv_up_ne _ _ (Ne.symm hxqs)]; exact h51
        have h57 : g53 qt = some (.inl (cA 0, 4, .inl hs)) := by rw [eg5, hv_up_ne _ _ (Ne.symm hxqt)]; exact h52
        exact hv_vret hE hr hlocks hI hK (⟨rfl, w1, h1, d, ex, o, t, 0, addS ex o t 0 iv n gp, by simp only [fitF, em, e1, e2, e3, Option.bind_some, hot, hov, ← ew1, ← eh1], h54, hp5, fun z x z1 z2 hz => by rw [eg5, hv_up_ne _ _ z2]; exact hkp z x z1 z2 hz⟩) (by decide) (by decide) d_Box_fit_112
      · skip
        exact absurd (Int32.le_of_lt (Int32.not_le.mp c43)) c72
  · skip
    have hbl : bel = true := by cases hb9 : bel with | true => rfl | false => exact absurd (by rw [hb9]; rfl) c4
    refine lv_aload_n hx hb d_Box_fit_7 rfl (lv_at hl 0 rfl) ?_
    refine lv_iload_n hx hb d_Box_fit_8 rfl (lv_at hl 3 rfl) ?_
    refine hv_V (As := [.int gr]) (rest := []) hE hml hK hI (c_Box_measureBelow l hl0 b0 D cA f bx ca pa n (b2i bel) dp al 0 0 0 0 gr gc (fun _ => 0) iv hbx hca hpa hit hn) cd_Box_measureBelow w384 w386 ws5 hbx rfl rfl hl.1 (Nat.le_of_ble_eq_true rfl) d_Box_fit_9 ⟨by decide, by decide⟩ ⟨by decide, by decide⟩ (fun v9 g58 H locs hp hI => ?_) (fun q9 E9 ce9 g9 H locs hp hI hce hcv hcl => ?_)
    rotate_left
    · skip
      obtain ⟨hE9, em, hk9⟩ := hp
      rw [hE9] at hcl
      exact hv_out hout hlocks hI hK hce hcv hcl ⟨rfl, by simp only [fitF, measF, if_pos hbl, em, Option.bind_none], fun z x z1 z2 hz => by rw [hk9 z z1 z2]; exact hz⟩ (by decide) (by decide)
    obtain ⟨hv, w, h, d, gp, em, hb9, hp9, ho9⟩ := hp
    rw [hv]
    refine W.eq (g2 := F0 m 12 ls []) rfl ?_
    have em : measF bel gr iv n = some (w, h, d, gp) := by rw [measF, if_pos hbl]; exact em
    have hit : itsAt g58 n gc iv := hit.keep (fun z x hz => ho9 z (hv_ne hz hbx (itE_box _ _)) (hv_ne hz hpa (itE_arr _ _)))
    have hkp : ∀ z x, z ≠ bx → z ≠ pa → f z = some x → g58 z = some x := fun z x z1 z2 hz => by rw [ho9 z z1 z2]; exact hz
    have h59 : g58 ca = some (.inl (cA 3, n, .inr (.inr (.inr (.inr gc))))) := by rw [ho9 ca (hv_ne hca hbx (by simp)) (hv_ne hca hpa (by simp))]; exact hca
    refine lv_goto (tgt := 19) hx hb d_Box_fit_12 (by decide) ?_
    refine lv_aload_n hx hb d_Box_fit_19 rfl (lv_at hl 0 rfl) ?_
    refine lv_iconst (v := 0) hx hb d_Box_fit_20 (by decide) ?_
    refine hv_V (As := [.int 0]) (rest := []) hE hml hK hI (c_Box_gives l hl0 b0 D cA g58 bx ca pa n (b2i bel) dp al w h d 0 0 0 0 false gc iv hb9 h59 hit hor hn) cd_Box_gives w418 w420 ws7 hb9 rfl rfl hl.1 (Nat.le_of_ble_eq_true rfl) d_Box_fit_21 ⟨by decide, by decide⟩ ⟨by decide, by decide⟩ (fun v9 g60 H locs hp hI => ?_) (fun q9 E9 ce9 g9 H locs hp hI hce hcv hcl => ?_)
    rotate_left
    · skip
      obtain ⟨hE9, e9, hk9⟩ := hp
      rw [hE9] at hcl
      exact hv_out hout hlocks hI hK hce hcv hcl ⟨rfl, by simp only [fitF, em, e9, Option.bind_none, Option.bind_some], fun z x z1 z2 hz => hk9 z x (hkp z x z1 z2 hz)⟩ (by decide) (by decide)
    obtain ⟨qs, gs, hv, hnqs, e1, egqs⟩ := hp
    rw [hv]
    refine W.eq (g2 := F0 m 24 ls [.ref qs]) rfl ?_
    have hit : itsAt g60 n gc iv := hit.keep (fun z x hz => by rw [egqs, hv_up_ne _ _ (hv_nn hz hnqs)])
    have hkp : ∀ z x, z ≠ bx → z ≠ pa → f z = some x → g60 z = some x := fun z x z1 z2 hz => by rw [egqs, hv_up_ne _ _ (hv_nn (hkp z x z1 z2 hz) hnqs)]; exact hkp z x z1 z2 hz
    have hxqs : pa ≠ qs := hv_nn hp9 hnqs
    have hgqs : g60 qs = some (.inl (cA 0, 4, .inl gs)) := by rw [egqs]; exact hv_up_self _ _ _
    have h61 : g60 bx = some (.inr (1, [.int (b2i bel), .ref ca, .ref pa, .int dp, .int al, .int w, .int h, .int d, .int 0, .int 0, .int 0, .int 0])) := by rw [egqs, hv_up_ne _ _ (hv_nn hb9 hnqs)]; exact hb9
    have h62 : g60 ca = some (.inl (cA 3, n, .inr (.inr (.inr (.inr gc))))) := by rw [egqs, hv_up_ne _ _ (hv_nn h59 hnqs)]; exact h59
    have h63 : g60 pa = some (.inl (cA 0, n, .inl gp)) := by rw [egqs, hv_up_ne _ _ (hv_nn hp9 hnqs)]; exact hp9
    refine lv_astore (lv' := [(4, .ref qs), (0, .ref bx), (1, .int how), (2, .int size), (3, .int gr)]) hx hb d_Box_fit_24 hl (by decide) rfl (fun ls hl => ?_)
    refine lv_aload_n hx hb d_Box_fit_26 rfl (lv_at hl 1 rfl) ?_
    refine lv_iconst (v := 1) hx hb d_Box_fit_27 (by decide) ?_
    refine hv_V (As := [.int 1]) (rest := []) hE hml hK hI (c_Box_gives l hl0 b0 D cA g60 bx ca pa n (b2i bel) dp al w h d 0 0 0 0 true gc iv h61 h62 hit hor hn) cd_Box_gives w418 w420 ws7 h61 rfl rfl hl.1 (Nat.le_of_ble_eq_true rfl) d_Box_fit_28 ⟨by decide, by decide⟩ ⟨by decide, by decide⟩ (fun v9 g64 H locs hp hI => ?_) (fun q9 E9 ce9 g9 H locs hp hI hce hcv hcl => ?_)
    rotate_left
    · skip
      obtain ⟨hE9, e9, hk9⟩ := hp
      rw [hE9] at hcl
      exact hv_out hout hlocks hI hK hce hcv hcl ⟨rfl, by simp only [fitF, em, e1, e9, Option.bind_none, Option.bind_some], fun z x z1 z2 hz => hk9 z x (hkp z x z1 z2 hz)⟩ (by decide) (by decide)
    obtain ⟨qt, hs, hv, hnqt, e2, egqt⟩ := hp
    rw [hv]
    refine W.eq (g2 := F0 m 31 ls [.ref qt]) rfl ?_
    have hit : itsAt g64 n gc iv := hit.keep (fun z x hz => by rw [egqt, hv_up_ne _ _ (hv_nn hz hnqt)])
    have hkp : ∀ z x, z ≠ bx → z ≠ pa → f z = some x → g64 z = some x := fun z x z1 z2 hz => by rw [egqt, hv_up_ne _ _ (hv_nn (hkp z x z1 z2 hz) hnqt)]; exact hkp z x z1 z2 hz
    have hxqt : pa ≠ qt := hv_nn h63 hnqt
    have hgqt : g64 qt = some (.inl (cA 0, 4, .inl hs)) := by rw [egqt]; exact hv_up_self _ _ _
    have hyq : qs ≠ qt := hv_nn hgqs hnqt
    have h65 : g64 bx = some (.inr (1, [.int (b2i bel), .ref ca, .ref pa, .int dp, .int al, .int w, .int h, .int d, .int 0, .int 0, .int 0, .int 0])) := by rw [egqt, hv_up_ne _ _ (hv_nn h61 hnqt)]; exact h61
    have h66 : g64 ca = some (.inl (cA 3, n, .inr (.inr (.inr (.inr gc))))) := by rw [egqt, hv_up_ne _ _ (hv_nn h62 hnqt)]; exact h62
    have h67 : g64 pa = some (.inl (cA 0, n, .inl gp)) := by rw [egqt, hv_up_ne _ _ (hv_nn h63 hnqt)]; exact h63
    have h68 : g64 qs = some (.inl (cA 0, 4, .inl gs)) := by rw [egqt, hv_up_ne _ _ (hv_nn hgqs hnqt)]; exact hgqs
    refine lv_astore (lv' := [(5, .ref qt), (4, .ref qs), (0, .ref bx), (1, .int how), (2, .int size), (3, .int gr)]) hx hb d_Box_fit_31 hl (by decide) rfl (fun ls hl => ?_)
    refine lv_aload_n hx hb d_Box_fit_33 rfl (lv_at hl 2 rfl) ?_
    refine lv_iload_n hx hb d_Box_fit_34 rfl (lv_at hl 3 rfl) ?_
    refine lv_iload_n hx hb d_Box_fit_35 rfl (lv_at hl 4 rfl) ?_
    refine hv_V (As := [.int how, .int size]) (rest := []) hE hml hK hI (c_Box_fillUp l hl0 b0 D cA g64 bx ca pa bel dp al w h d 0 0 0 how size h65) cd_Box_fillUp w430 w432 ws10 h65 rfl rfl hl.1 (Nat.le_of_ble_eq_true rfl) d_Box_fit_36 ⟨by decide, by decide⟩ ⟨by decide, by decide⟩ (fun v9 g69 H locs hp hI => ?_) (fun q9 E9 ce9 g9 H locs hp hI hce hcv hcl => ?_)
    rotate_left
    · skip
      obtain ⟨hE9, e9, hk9⟩ := hp
      rw [hE9] at hcl
      exact hv_out hout hlocks hI hK hce hcv hcl ⟨rfl, by simp only [fitF, em, e1, e2, e9, Option.bind_none, Option.bind_some], fun z x z1 z2 hz => by rw [hk9 z z1]; exact hkp z x z1 z2 hz⟩ (by decide) (by decide)
    obtain ⟨hv, ex, ln, e3, eg3⟩ := hp
    rw [hv]
    refine W.eq (g2 := F0 m 39 ls []) rfl ?_
    obtain ⟨w1, ew1⟩ : ∃ z : Int32, z = if bel = true then w else ln := ⟨_, rfl⟩
    obtain ⟨h1, eh1⟩ : ∃ z : Int32, z = if bel = true then ln else h := ⟨_, rfl⟩
    rw [← ew1, ← eh1] at eg3
    have hb3 : g69 bx = some (.inr (1, [.int (b2i bel), .ref ca, .ref pa, .int dp, .int al, .int w1, .int h1, .int d, .int ex, .int 0, .int 0, .int 0])) := by rw [eg3]; exact hv_up_self _ _ _
    have hit : itsAt g69 n gc iv := hit.keep (fun z x hz => by rw [eg3, hv_up_ne _ _ (hv_ne hz h65 (itE_box _ _))])
    have hkp : ∀ z x, z ≠ bx → z ≠ pa → f z = some x → g69 z = some x := fun z x z1 z2 hz => by rw [eg3, hv_up_ne _ _ z1]; exact hkp z x z1 z2 hz
    have h70 : g69 ca = some (.inl (cA 3, n, .inr (.inr (.inr (.inr gc))))) := by rw [eg3, hv_up_ne _ _ (hv_ne h66 h65 (by simp))]; exact h66
    have h71 : g69 pa = some (.inl (cA 0, n, .inl gp)) := by rw [eg3, hv_up_ne _ _ (hv_ne h67 h65 (by simp))]; exact h67
    have h72 : g69 qs = some (.inl (cA 0, 4, .inl gs)) := by rw [eg3, hv_up_ne _ _ (hv_ne h68 h65 (by simp))]; exact h68
    have h73 : g69 qt = some (.inl (cA 0, 4, .inl hs)) := by rw [eg3, hv_up_ne _ _ (hv_ne hgqt h65 (by simp))]; exact hgqt
    refine lv_aload_n hx hb d_Box_fit_39 rfl (lv_at hl 2 rfl) ?_
    refine hv_get hE k_Box hI 8 (by decide) w345 hb3 rfl d_Box_fit_40 ?_
    refine lv_if_le (tgt := 55) hx hb d_Box_fit_43 (by decide) (fun c43 => ?_) (fun c43 => ?_)
    · skip
      refine lv_aload_n hx hb d_Box_fit_55 rfl (lv_at hl 2 rfl) ?_
      refine hv_get hE k_Box hI 8 (by decide) w345 hb3 rfl d_Box_fit_56 ?_
      refine lv_if_ge (tgt := 68) hx hb d_Box_fit_59 (by decide) (fun c59 => ?_) (fun c59 => ?_)
      · skip
        obtain ⟨o, t, eo, et, hot⟩ : ∃ o t : Int32, o = 0 ∧ t = 0 ∧ fndF gs hs ex = (o, t) := ⟨0, 0, rfl, rfl, by rw [fndF, if_neg (Int32.not_lt.mpr c43), if_neg (Int32.not_lt.mpr c59)]⟩
        have hb4 : g69 bx = some (.inr (1, [.int (b2i bel), .ref ca, .ref pa, .int dp, .int al, .int w1, .int h1, .int d, .int ex, .int o, .int t, .int 0])) := by rw [eo, et]; exact hb3
        refine lv_aload_n hx hb d_Box_fit_68 rfl (lv_at hl 2 rfl) ?_
        refine hv_get hE k_Box hI 8 (by decide) w345 hb4 rfl d_Box_fit_69 ?_
        refine lv_if_ge (tgt := 108) hx hb d_Box_fit_72 (by decide) (fun c72 => ?_) (fun c72 => ?_)
        · skip
          have hov : ovF ex o t = 0 := if_neg (fun q => Int32.not_lt.mpr c72 q.1)
          refine lv_aload_n hx hb d_Box_fit_108 rfl (lv_at hl 2 rfl) ?_
          refine hv_V (As := []) (rest := []) hE hml hK hI (c_Box_addShares l hl0 b0 D cA g69 bx ca pa n (b2i bel) dp al w1 h1 d ex o t 0 gc gp iv hb4 h70 h71 hit hn) cd_Box_addShares w438 w440 ws12 hb4 rfl rfl hl.1 (Nat.le_of_ble_eq_true rfl) d_Box_fit_109 ⟨by decide, by decide⟩ ⟨by decide, by decide⟩ (fun v9 g74 H locs hp hI => ?_) (fun q9 E9 ce9 g9 H locs hp => hp.elim)
          obtain ⟨hv, eg5⟩ := hp
          rw [hv]
          refine W.eq (g2 := F0 m 112 ls []) rfl ?_
          have hp5 : g74 pa = some (.inl (cA 0, n, .inl (addS ex o t 0 iv n gp))) := by rw [eg5]; exact hv_up_self _ _ _
          have h75 : g74 bx = some (.inr (1, [.int (b2i bel), .ref ca, .ref pa, .int dp, .int al, .int w1, .int h1, .int d, .int ex, .int o, .int t, .int 0])) := by rw [eg5, hv_up_ne _ _ (hv_ne hb4 h71 (by simp))]; exact hb4
          have h76 : g74 ca = some (.inl (cA 3, n, .inr (.inr (.inr (.inr gc))))) := by rw [eg5, hv_up_ne _ _ (hv_ne h70 h71 (by simp))]; exact h70
          have h77 : g74 qs = some (.inl (cA 0, 4, .inl gs)) := by rw [eg5, hv_up_ne _ _ (Ne.symm hxqs)]; exact h72
          have h78 : g74 qt = some (.inl (cA 0, 4, .inl hs)) := by rw [eg5, hv_up_ne _ _ (Ne.symm hxqt)]; exact h73
          exact hv_vret hE hr hlocks hI hK (⟨rfl, w1, h1, d, ex, o, t, 0, addS ex o t 0 iv n gp, by simp only [fitF, em, e1, e2, e3, Option.bind_some, hot, hov, ← ew1, ← eh1], h75, hp5, fun z x z1 z2 hz => by rw [eg5, hv_up_ne _ _ z2]; exact hkp z x z1 z2 hz⟩) (by decide) (by decide) d_Box_fit_112
        · skip
          exact absurd c59 c72
      · skip
        refine lv_aload_n hx hb d_Box_fit_62 rfl (lv_at hl 2 rfl) ?_
        refine lv_aload hx hb d_Box_fit_63 (lv_at hl 0 rfl) ?_
        refine hv_V (As := [.ref qt]) (rest := []) hE hml hK hI (c_Box_findTotal l hl0 b0 D cA g69 bx ca pa qt (b2i bel) dp al w1 h1 d ex 0 0 0 hs hb3 h73) cd_Box_findTotal w434 w436 ws11 hb3 rfl rfl hl.1 (Nat.le_of_ble_eq_true rfl) d_Box_fit_65 ⟨by decide, by decide⟩ ⟨by decide, by decide⟩ (fun v9 g79 H locs hp hI => ?_) (fun q9 E9 ce9 g9 H locs hp => hp.elim)
        obtain ⟨hv, o, t, eo, eg4⟩ := hp
        rw [hv]
        refine W.eq (g2 := F0 m 68 ls []) rfl ?_
        have hb4 : g79 bx = some (.inr (1, [.int (b2i bel), .ref ca, .ref pa, .int dp, .int al, .int w1, .int h1, .int d, .int ex, .int o, .int t, .int 0])) := by rw [eg4]; exact hv_up_self _ _ _
        have hit : itsAt g79 n gc iv := hit.keep (fun z x hz => by rw [eg4, hv_up_ne _ _ (hv_ne hz hb3 (itE_box _ _))])
        have hkp : ∀ z x, z ≠ bx → z ≠ pa → f z = some x → g79 z = some x := fun z x z1 z2 hz => by rw [eg4, hv_up_ne _ _ z1]; exact hkp z x z1 z2 hz
        have h80 : g79 ca = some (.inl (cA 3, n, .inr (.inr (.inr (.inr gc))))) := by rw [eg4, hv_up_ne _ _ (hv_ne h70 hb3 (by simp))]; exact h70
        have h81 : g79 pa = some (.inl (cA 0, n, .inl gp)) := by rw [eg4, hv_up_ne _ _ (hv_ne h71 hb3 (by simp))]; exact h71
        have h82 : g79 qs = some (.inl (cA 0, 4, .inl gs)) := by rw [eg4, hv_up_ne _ _ (hv_ne h72 hb3 (by simp))]; exact h72
        have h83 : g79 qt = some (.inl (cA 0, 4, .inl hs)) := by rw [eg4, hv_up_ne _ _ (hv_ne h73 hb3 (by simp))]; exact h73
        have hot : fndF gs hs ex = (o, t) := by rw [fndF, if_neg (Int32.not_lt.mpr c43), if_pos (Int32.not_le.mp c59)]; exact eo
        refine lv_aload_n hx hb d_Box_fit_68 rfl (lv_at hl 2 rfl) ?_
        refine hv_get hE k_Box hI 8 (by decide) w345 hb4 rfl d_Box_fit_69 ?_
        refine lv_if_ge (tgt := 108) hx hb d_Box_fit_72 (by decide) (fun c72 => ?_) (fun c72 => ?_)
        · skip
          exact absurd c72 c59
        · skip
          refine lv_aload_n hx hb d_Box_fit_75 rfl (lv_at hl 2 rfl) ?_
          refine hv_get hE k_Box hI 9 (by decide) w347 hb4 rfl d_Box_fit_76 ?_
          refine lv_if_ne (tgt := 108) hx hb d_Box_fit_79 (by decide) (fun c79 => ?_) (fun c79 => ?_)
          · skip
            have hov : ovF ex o t = 0 := if_neg (fun q => c79 q.2.1)
            refine lv_aload_n hx hb d_Box_fit_108 rfl (lv_at hl 2 rfl) ?_
            refine hv_V (As := []) (rest := []) hE hml hK hI (c_Box_addShares l hl0 b0 D cA g79 bx ca pa n (b2i bel) dp al w1 h1 d ex o t 0 gc gp iv hb4 h80 h81 hit hn) cd_Box_addShares w438 w440 ws12 hb4 rfl rfl hl.1 (Nat.le_of_ble_eq_true rfl) d_Box_fit_109 ⟨by decide, by decide⟩ ⟨by decide, by decide⟩ (fun v9 g84 H locs hp hI => ?_) (fun q9 E9 ce9 g9 H locs hp => hp.elim)
            obtain ⟨hv, eg5⟩ := hp
            rw [hv]
            refine W.eq (g2 := F0 m 112 ls []) rfl ?_
            have hp5 : g84 pa = some (.inl (cA 0, n, .inl (addS ex o t 0 iv n gp))) := by rw [eg5]; exact hv_up_self _ _ _
            have h85 : g84 bx = some (.inr (1, [.int (b2i bel), .ref ca, .ref pa, .int dp, .int al, .int w1, .int h1, .int d, .int ex, .int o, .int t, .int 0])) := by rw [eg5, hv_up_ne _ _ (hv_ne hb4 h81 (by simp))]; exact hb4
            have h86 : g84 ca = some (.inl (cA 3, n, .inr (.inr (.inr (.inr gc))))) := by rw [eg5, hv_up_ne _ _ (hv_ne h80 h81 (by simp))]; exact h80
            have h87 : g84 qs = some (.inl (cA 0, 4, .inl gs)) := by rw [eg5, hv_up_ne _ _ (Ne.symm hxqs)]; exact h82
            have h88 : g84 qt = some (.inl (cA 0, 4, .inl hs)) := by rw [eg5, hv_up_ne _ _ (Ne.symm hxqt)]; exact h83
            exact hv_vret hE hr hlocks hI hK (⟨rfl, w1, h1, d, ex, o, t, 0, addS ex o t 0 iv n gp, by simp only [fitF, em, e1, e2, e3, Option.bind_some, hot, hov, ← ew1, ← eh1], h85, hp5, fun z x z1 z2 hz => by rw [eg5, hv_up_ne _ _ z2]; exact hkp z x z1 z2 hz⟩) (by decide) (by decide) d_Box_fit_112
          · skip
            refine lv_aload_n hx hb d_Box_fit_82 rfl (lv_at hl 2 rfl) ?_
            refine hv_get hE k_Box hI 10 (by decide) w349 hb4 rfl d_Box_fit_83 ?_
            refine lv_aload_n hx hb d_Box_fit_86 rfl (lv_at hl 2 rfl) ?_
            refine hv_get hE k_Box hI 8 (by decide) w345 hb4 rfl d_Box_fit_87 ?_
            refine lv_ineg hx hb d_Box_fit_90 ?_
            refine lv_icmp_ge (tgt := 108) hx hb d_Box_fit_91 (by decide) (fun c91 => ?_) (fun c91 => ?_)
            · skip
              have hov : ovF ex o t = 0 := if_neg (fun q => Int32.not_lt.mpr c91 q.2.2)
              refine lv_aload_n hx hb d_Box_fit_108 rfl (lv_at hl 2 rfl) ?_
              refine hv_V (As := []) (rest := []) hE hml hK hI (c_Box_addShares l hl0 b0 D cA g79 bx ca pa n (b2i bel) dp al w1 h1 d ex o t 0 gc gp iv hb4 h80 h81 hit hn) cd_Box_addShares w438 w440 ws12 hb4 rfl rfl hl.1 (Nat.le_of_ble_eq_true rfl) d_Box_fit_109 ⟨by decide, by decide⟩ ⟨by decide, by decide⟩ (fun v9 g89 H locs hp hI => ?_) (fun q9 E9 ce9 g9 H locs hp => hp.elim)
              obtain ⟨hv, eg5⟩ := hp
              rw [hv]
              refine W.eq (g2 := F0 m 112 ls []) rfl ?_
              have hp5 : g89 pa = some (.inl (cA 0, n, .inl (addS ex o t 0 iv n gp))) := by rw [eg5]; exact hv_up_self _ _ _
              have h90 : g89 bx = some (.inr (1, [.int (b2i bel), .ref ca, .ref pa, .int dp, .int al, .int w1, .int h1, .int d, .int ex, .int o, .int t, .int 0])) := by rw [eg5, hv_up_ne _ _ (hv_ne hb4 h81 (by simp))]; exact hb4
              have h91 : g89 ca = some (.inl (cA 3, n, .inr (.inr (.inr (.inr gc))))) := by rw [eg5, hv_up_ne _ _ (hv_ne h80 h81 (by simp))]; exact h80
              have h92 : g89 qs = some (.inl (cA 0, 4, .inl gs)) := by rw [eg5, hv_up_ne _ _ (Ne.symm hxqs)]; exact h82
              have h93 : g89 qt = some (.inl (cA 0, 4, .inl hs)) := by rw [eg5, hv_up_ne _ _ (Ne.symm hxqt)]; exact h83
              exact hv_vret hE hr hlocks hI hK (⟨rfl, w1, h1, d, ex, o, t, 0, addS ex o t 0 iv n gp, by simp only [fitF, em, e1, e2, e3, Option.bind_some, hot, hov, ← ew1, ← eh1], h90, hp5, fun z x z1 z2 hz => by rw [eg5, hv_up_ne _ _ z2]; exact hkp z x z1 z2 hz⟩) (by decide) (by decide) d_Box_fit_112
            · skip
              have hov : ovF ex o t = -ex - t := if_pos ⟨Int32.not_le.mp c72, c79, Int32.not_le.mp c91⟩
              refine lv_aload_n hx hb d_Box_fit_94 rfl (lv_at hl 2 rfl) ?_
              refine lv_aload_n hx hb d_Box_fit_95 rfl (lv_at hl 2 rfl) ?_
              refine hv_get hE k_Box hI 8 (by decide) w345 hb4 rfl d_Box_fit_96 ?_
              refine lv_ineg hx hb d_Box_fit_99 ?_
              refine lv_aload_n hx hb d_Box_fit_100 rfl (lv_at hl 2 rfl) ?_
              refine hv_get hE k_Box hI 10 (by decide) w349 hb4 rfl d_Box_fit_101 ?_
              refine lv_isub hx hb d_Box_fit_104 ?_
              refine hv_put hE k_Box hI 11 (by decide) w351 hb4 rfl rfl rfl (Nat.le_of_ble_eq_true rfl) d_Box_fit_105 (fun H locs hI => ?_)
              obtain ⟨g94, eg94⟩ : ∃ z : hv_M, z = hv_up g79 bx (.inr (1, [.int (b2i bel), .ref ca, .ref pa, .int dp, .int al, .int w1, .int h1, .int d, .int ex, .int o, .int t, .int ((-ex) - t)])) := ⟨_, rfl⟩
              have hI : hv_I D CL b0 g94 s.heap H locs := by rw [eg94]; exact hI
              have h95 : g94 bx = some (.inr (1, [.int (b2i bel), .ref ca, .ref pa, .int dp, .int al, .int w1, .int h1, .int d, .int ex, .int o, .int t, .int ((-ex) - t)])) := by rw [eg94]; exact hv_up_self _ _ _
              have h96 : g94 ca = some (.inl (cA 3, n, .inr (.inr (.inr (.inr gc))))) := by rw [eg94]; rw [hv_up_ne _ _ (hv_ne h80 hb4 (by simp))]; exact h80
              have h97 : g94 pa = some (.inl (cA 0, n, .inl gp)) := by rw [eg94]; rw [hv_up_ne _ _ (hv_ne h81 hb4 (by simp))]; exact h81
              have h98 : g94 qs = some (.inl (cA 0, 4, .inl gs)) := by rw [eg94]; rw [hv_up_ne _ _ (hv_ne h82 hb4 (by simp))]; exact h82
              have h99 : g94 qt = some (.inl (cA 0, 4, .inl hs)) := by rw [eg94]; rw [hv_up_ne _ _ (hv_ne h83 hb4 (by simp))]; exact h83
              refine lv_aload_n hx hb d_Box_fit_108 rfl (lv_at hl 2 rfl) ?_
              have hit : itsAt g94 n gc iv := hit.keep (fun z x hz => by rw [eg94, hv_up_ne _ _ (hv_ne hz hb4 (itE_box _ _))])
              have hkp : ∀ z x, z ≠ bx → z ≠ pa → f z = some x → g94 z = some x := fun z x z1 z2 hz => by rw [eg94, hv_up_ne _ _ z1]; exact hkp z x z1 z2 hz
              refine hv_V (As := []) (rest := []) hE hml hK hI (c_Box_addShares l hl0 b0 D cA g94 bx ca pa n (b2i bel) dp al w1 h1 d ex o t ((-ex) - t) gc gp iv h95 h96 h97 hit hn) cd_Box_addShares w438 w440 ws12 h95 rfl rfl hl.1 (Nat.le_of_ble_eq_true rfl) d_Box_fit_109 ⟨by decide, by decide⟩ ⟨by decide, by decide⟩ (fun v9 g100 H locs hp hI => ?_) (fun q9 E9 ce9 g9 H locs hp => hp.elim)
              obtain ⟨hv, eg5⟩ := hp
              rw [hv]
              refine W.eq (g2 := F0 m 112 ls []) rfl ?_
              have hp5 : g100 pa = some (.inl (cA 0, n, .inl (addS ex o t ((-ex) - t) iv n gp))) := by rw [eg5]; exact hv_up_self _ _ _
              have h101 : g100 bx = some (.inr (1, [.int (b2i bel), .ref ca, .ref pa, .int dp, .int al, .int w1, .int h1, .int d, .int ex, .int o, .int t, .int ((-ex) - t)])) := by rw [eg5, hv_up_ne _ _ (hv_ne h95 h97 (by simp))]; exact h95
              have h102 : g100 ca = some (.inl (cA 3, n, .inr (.inr (.inr (.inr gc))))) := by rw [eg5, hv_up_ne _ _ (hv_ne h96 h97 (by simp))]; exact h96
              have h103 : g100 qs = some (.inl (cA 0, 4, .inl gs)) := by rw [eg5, hv_up_ne _ _ (Ne.symm hxqs)]; exact h98
              have h104 : g100 qt = some (.inl (cA 0, 4, .inl hs)) := by rw [eg5, hv_up_ne _ _ (Ne.symm hxqt)]; exact h99
              exact hv_vret hE hr hlocks hI hK (⟨rfl, w1, h1, d, ex, o, t, (-ex) - t, addS ex o t ((-ex) - t) iv n gp, by simp only [fitF, em, e1, e2, e3, Option.bind_some, hot, hov, ← ew1, ← eh1], h101, hp5, fun z x z1 z2 hz => by rw [eg5, hv_up_ne _ _ z2]; exact hkp z x z1 z2 hz⟩) (by decide) (by decide) d_Box_fit_112
    · skip
      refine lv_aload_n hx hb d_Box_fit_46 rfl (lv_at hl 2 rfl) ?_
      refine lv_aload hx hb d_Box_fit_47 (lv_at hl 1 rfl) ?_
      refine hv_V (As := [.ref qs]) (rest := []) hE hml hK hI (c_Box_findTotal l hl0 b0 D cA g69 bx ca pa qs (b2i bel) dp al w1 h1 d ex 0 0 0 gs hb3 h72) cd_Box_findTotal w434 w436 ws11 hb3 rfl rfl hl.1 (Nat.le_of_ble_eq_true rfl) d_Box_fit_49 ⟨by decide, by decide⟩ ⟨by decide, by decide⟩ (fun v9 g105 H locs hp hI => ?_) (fun q9 E9 ce9 g9 H locs hp => hp.elim)
      obtain ⟨hv, o, t, eo, eg4⟩ := hp
      rw [hv]
      refine W.eq (g2 := F0 m 52 ls []) rfl ?_
      have hb4 : g105 bx = some (.inr (1, [.int (b2i bel), .ref ca, .ref pa, .int dp, .int al, .int w1, .int h1, .int d, .int ex, .int o, .int t, .int 0])) := by rw [eg4]; exact hv_up_self _ _ _
      have hit : itsAt g105 n gc iv := hit.keep (fun z x hz => by rw [eg4, hv_up_ne _ _ (hv_ne hz hb3 (itE_box _ _))])
      have hkp : ∀ z x, z ≠ bx → z ≠ pa → f z = some x → g105 z = some x := fun z x z1 z2 hz => by rw [eg4, hv_up_ne _ _ z1]; exact hkp z x z1 z2 hz
      have h106 : g105 ca = some (.inl (cA 3, n, .inr (.inr (.inr (.inr gc))))) := by rw [eg4, hv_up_ne _ _ (hv_ne h70 hb3 (by simp))]; exact h70
      have h107 : g105 pa = some (.inl (cA 0, n, .inl gp)) := by rw [eg4, hv_up_ne _ _ (hv_ne h71 hb3 (by simp))]; exact h71
      have h108 : g105 qs = some (.inl (cA 0, 4, .inl gs)) := by rw [eg4, hv_up_ne _ _ (hv_ne h72 hb3 (by simp))]; exact h72
      have h109 : g105 qt = some (.inl (cA 0, 4, .inl hs)) := by rw [eg4, hv_up_ne _ _ (hv_ne h73 hb3 (by simp))]; exact h73
      have hot : fndF gs hs ex = (o, t) := by rw [fndF, if_pos (Int32.not_le.mp c43)]; exact eo
      refine lv_goto (tgt := 68) hx hb d_Box_fit_52 (by decide) ?_
      refine lv_aload_n hx hb d_Box_fit_68 rfl (lv_at hl 2 rfl) ?_
      refine hv_get hE k_Box hI 8 (by decide) w345 hb4 rfl d_Box_fit_69 ?_
      refine lv_if_ge (tgt := 108) hx hb d_Box_fit_72 (by decide) (fun c72 => ?_) (fun c72 => ?_)
      · skip
        have hov : ovF ex o t = 0 := if_neg (fun q => Int32.not_lt.mpr c72 q.1)
        refine lv_aload_n hx hb d_Box_fit_108 rfl (lv_at hl 2 rfl) ?_
        refine hv_V (As := []) (rest := []) hE hml hK hI (c_Box_addShares l hl0 b0 D cA g105 bx ca pa n (b2i bel) dp al w1 h1 d ex o t 0 gc gp iv hb4 h106 h107 hit hn) cd_Box_addShares w438 w440 ws12 hb4 rfl rfl hl.1 (Nat.le_of_ble_eq_true rfl) d_Box_fit_109 ⟨by decide, by decide⟩ ⟨by decide, by decide⟩ (fun v9 g110 H locs hp hI => ?_) (fun q9 E9 ce9 g9 H locs hp => hp.elim)
        obtain ⟨hv, eg5⟩ := hp
        rw [hv]
        refine W.eq (g2 := F0 m 112 ls []) rfl ?_
        have hp5 : g110 pa = some (.inl (cA 0, n, .inl (addS ex o t 0 iv n gp))) := by rw [eg5]; exact hv_up_self _ _ _
        have h111 : g110 bx = some (.inr (1, [.int (b2i bel), .ref ca, .ref pa, .int dp, .int al, .int w1, .int h1, .int d, .int ex, .int o, .int t, .int 0])) := by rw [eg5, hv_up_ne _ _ (hv_ne hb4 h107 (by simp))]; exact hb4
        have h112 : g110 ca = some (.inl (cA 3, n, .inr (.inr (.inr (.inr gc))))) := by rw [eg5, hv_up_ne _ _ (hv_ne h106 h107 (by simp))]; exact h106
        have h113 : g110 qs = some (.inl (cA 0, 4, .inl gs)) := by rw [eg5, hv_up_ne _ _ (Ne.symm hxqs)]; exact h108
        have h114 : g110 qt = some (.inl (cA 0, 4, .inl hs)) := by rw [eg5, hv_up_ne _ _ (Ne.symm hxqt)]; exact h109
        exact hv_vret hE hr hlocks hI hK (⟨rfl, w1, h1, d, ex, o, t, 0, addS ex o t 0 iv n gp, by simp only [fitF, em, e1, e2, e3, Option.bind_some, hot, hov, ← ew1, ← eh1], h111, hp5, fun z x z1 z2 hz => by rw [eg5, hv_up_ne _ _ z2]; exact hkp z x z1 z2 hz⟩) (by decide) (by decide) d_Box_fit_112
      · skip
        exact absurd (Int32.le_of_lt (Int32.not_le.mp c43)) c72
end
section
/-! ===== items are added ===== -/
theorem b2i_t {b : Bool} (h : ¬ b2i b = 0) : b = true := by cases b with | true => rfl | false => exact absurd rfl h
theorem b2i_f {b : Bool} (h : b2i b = 0) : b = false := b2i_ne.mp h
abbrev bpE (la ma mk : Nat) (n bn : Nat) : va_E := .inr (0, [.ref la, .int (nI n), .ref ma, .int (nI bn), .ref mk])
/-- one item more: its cell is new -/
def addedI (cA : Nat → ClassId) (f g : hv_M) (x la ma mk n bn : Nat) (gl : Nat → Option Nat) (e : va_E) : Prop :=
  ∃ q, f q = none ∧ g x = some (bpE la ma mk (n + 1) bn) ∧ g la = some (.inl (cA 3, 100, .inr (.inr (.inr (.inr (va_up gl n (some q))))))) ∧ g q = some e ∧ ∀ z, z ≠ x → z ≠ la → z ≠ q → g z = f z
def okLeaf (t w h d : Int32) : Bool := !decide (t < 0) && decide (t ≤ 65535) && sz w.toInt64 && sz h.toInt64 && sz d.toInt64
def okRule (w h d : Int32) : Bool := szr w && szr h && szr d
def okGlue (w a b d z : Int32) : Bool := sz w.toInt64 && sz a.toInt64 && !decide (a < 0) && sz d.toInt64 && !decide (d < 0) && ord4 b && ord4 z

set_option maxHeartbeats 4000000 in
set_option maxRecDepth 100000 in
theorem c_BP_leaf (l : Launch) (hl0 : l.stackTraces = false) (b0 : Nat) (D : va_G) (cA : Nat → ClassId) (f : hv_M) (x la ma mk n bn : Nat) (t w h d : Int32) (gl : Nat → Option Nat) (hx0 : f x = some (.inr (0, [.ref la, .int (nI n), .ref ma, .int (nI bn), .ref mk]))) (hla : f la = some (.inl (cA 3, 100, .inr (.inr (.inr (.inr gl)))))) (hn : n < 2 ^ 31) : hv_Met l y_BP_leaf [Cond.code y_BP_leaf b_BP_leaf 5 (some FieldType.int)] (RM 4 3 18) b0 (Fa D cA) D CL [.ref x, .int t, .int w, .int h, .int d] f (fun v g => v = some (.int (nI n)) ∧ okLeaf t w h d = true ∧ n < 100 ∧ addedI cA f g x la ma mk n bn gl (itE (.inl (t, w, h, d, none, 0)))) (fun E g => (E = "java/lang/IllegalArgumentException" ∧ okLeaf t w h d = false ∧ g = f) ∨ (E = "java/lang/UnsupportedOperationException" ∧ okLeaf t w h d = true ∧ 100 ≤ n ∧ g = f)) := by
  refine hv_Met.of (own := "BoxPacker") (by decide) rfl (Nat.le_of_ble_eq_true rfl) ?_
  intro p e s m below meth c hE hml hout hr hlocks hname hK hI ls hl
  have hl : lv_has ls 5 [(0, .ref x), (1, .int t), (2, .int w), (3, .int h), (4, .int d)] := hl
  obtain ⟨hx, hb, hown, hts, hVK⟩ := id hE
  refine lv_iload_n hx hb d_BP_leaf_0 rfl (lv_at hl 1 rfl) ?_
  refine lv_if_lt (tgt := 10) hx hb d_BP_leaf_1 (by decide) (fun c1 => ?_) (fun c1 => ?_)
  · skip
    exact hv_throw hE hl0 (cls := "java/lang/IllegalArgumentException") (text := "the tag is not 0 .. 65535") (names := NMS) (by decide) (by decide) hI hK (hv_thr tw_IAE (by decide)) (by rw [hml]; exact hl.1) d_BP_leaf_10 d_BP_leaf_13 d_BP_leaf_14 d_BP_leaf_16 d_BP_leaf_19 hout (by decide) (by decide) hlocks (Or.inl ⟨rfl, by simp [okLeaf, c1], rfl⟩) (by decide) (by decide) (by decide) (by decide)
  · skip
    refine lv_iload_n hx hb d_BP_leaf_4 rfl (lv_at hl 1 rfl) ?_
    refine lv_ldc (v := 65535) hx hb hown (hts _ w81) d_BP_leaf_5 ?_
    refine lv_icmp_le (tgt := 20) hx hb d_BP_leaf_7 (by decide) (fun c7 => ?_) (fun c7 => ?_)
    · skip
      refine lv_iload_n hx hb d_BP_leaf_20 rfl (lv_at hl 2 rfl) ?_
      refine lv_i2l (v := w.toInt64) hx hb d_BP_leaf_21 rfl ?_
      refine hv_Sp (As := [.long w.toInt64]) (rest := []) hE hml hK hI (c_BP_isSize l hl0 b0 D cA f w.toInt64) cd_BP_isSize w151 w152 rfl rfl rfl hl.1 (Nat.le_of_ble_eq_true rfl) d_BP_leaf_22 ⟨by decide, by decide⟩ ⟨by decide, by decide⟩ (fun H locs hI => ?_)
      refine W.eq (g2 := F0 m 25 ls [.int (b2i (sz w.toInt64))]) rfl ?_
      refine lv_if_eq (tgt := 45) hx hb d_BP_leaf_25 (by decide) (fun c25 => ?_) (fun c25 => ?_)
      · skip
        have k25 := b2i_f c25
        exact hv_throw hE hl0 (cls := "java/lang/IllegalArgumentException") (text := "the width, height or depth is no size") (names := NMS) (by decide) (by decide) hI hK (hv_thr tw_IAE (by decide)) (by rw [hml]; exact hl.1) d_BP_leaf_45 d_BP_leaf_48 d_BP_leaf_49 d_BP_leaf_51 d_BP_leaf_54 hout (by decide) (by decide) hlocks (Or.inl ⟨rfl, by simp [okLeaf, c1, c7, k25], rfl⟩) (by decide) (by decide) (by decide) (by decide)
      · skip
        have k25 := b2i_t c25
        refine lv_iload_n hx hb d_BP_leaf_28 rfl (lv_at hl 3 rfl) ?_
        refine lv_i2l (v := h.toInt64) hx hb d_BP_leaf_29 rfl ?_
        refine hv_Sp (As := [.long h.toInt64]) (rest := []) hE hml hK hI (c_BP_isSize l hl0 b0 D cA f h.toInt64) cd_BP_isSize w151 w152 rfl rfl rfl hl.1 (Nat.le_of_ble_eq_true rfl) d_BP_leaf_30 ⟨by decide, by decide⟩ ⟨by decide, by decide⟩ (fun H locs hI => ?_)
        refine W.eq (g2 := F0 m 33 ls [.int (b2i (sz h.toInt64))]) rfl ?_
        refine lv_if_eq (tgt := 45) hx hb d_BP_leaf_33 (by decide) (fun c33 => ?_) (fun c33 => ?_)
        · skip
          have k33 := b2i_f c33
          exact hv_throw hE hl0 (cls := "java/lang/IllegalArgumentException") (text := "the width, height or depth is no size") (names := NMS) (by decide) (by decide) hI hK (hv_thr tw_IAE (by decide)) (by rw [hml]; exact hl.1) d_BP_leaf_45 d_BP_leaf_48 d_BP_leaf_49 d_BP_leaf_51 d_BP_leaf_54 hout (by decide) (by decide) hlocks (Or.inl ⟨rfl, by simp [okLeaf, c1, c7, k25, k33], rfl⟩) (by decide) (by decide) (by decide) (by decide)
        · skip
          have k33 := b2i_t c33
          refine lv_iload hx hb d_BP_leaf_36 (lv_at hl 4 rfl) ?_
          refine lv_i2l (v := d.toInt64) hx hb d_BP_leaf_38 rfl ?_
          refine hv_Sp (As := [.long d.toInt64]) (rest := []) hE hml hK hI (c_BP_isSize l hl0 b0 D cA f d.toInt64) cd_BP_isSize w151 w152 rfl rfl rfl hl.1 (Nat.le_of_ble_eq_true rfl) d_BP_leaf_39 ⟨by decide, by decide⟩ ⟨by decide, by decide⟩ (fun H locs hI => ?_)
          refine W.eq (g2 := F0 m 42 ls [.int (b2i (sz d.toInt64))]) rfl ?_
          refine lv_if_ne (tgt := 55) hx hb d_BP_leaf_42 (by decide) (fun c42 => ?_) (fun c42 => ?_)
          · skip
            have k42 := b2i_t c42
            refine lv_aload_n hx hb d_BP_leaf_55 rfl (lv_at hl 0 rfl) ?_
            refine hv_V (As := []) (rest := []) hE hml hK hI (c_BP_refuseWhenFull l hl0 b0 D cA f x la ma mk n bn hx0 hn) cd_BP_refuseWhenFull w157 w159 ws1 hx0 rfl rfl hl.1 (Nat.le_of_ble_eq_true rfl) d_BP_leaf_56 ⟨by decide, by decide⟩ ⟨by decide, by decide⟩ (fun v9 g1 H locs hp hI => ?_) (fun q9 E9 ce9 g9 H locs hp hI hce hcv hcl => ?_)
            rotate_left
            · skip
              obtain ⟨hE9, hg9, hc9⟩ := hp
              rw [hE9] at hcl
              rw [hg9] at hI
              exact hv_out hout hlocks hI hK hce hcv hcl (Or.inr ⟨rfl, by simp [okLeaf, c1, c7, k25, k33, k42], hc9, rfl⟩) (by decide) (by decide)
            obtain ⟨hv, hg9, hn1⟩ := hp
            rw [hv]
            rw [hg9] at hI
            refine W.eq (g2 := F0 m 59 ls []) rfl ?_
            refine lv_aload_n hx hb d_BP_leaf_59 rfl (lv_at hl 0 rfl) ?_
            refine hv_new hE k_Solid hI w177 w178 w10 (fs := [.int 0, .int 0, .int 0, .int 0, .null, .int 0]) (by decide +kernel) (by decide) (by decide) d_BP_leaf_60 (fun q2 H hnq2 hI => ?_)
            obtain ⟨g3, eg3⟩ : ∃ z : hv_M, z = hv_up f q2 (.inr (2, [.int 0, .int 0, .int 0, .int 0, .null, .int 0])) := ⟨_, rfl⟩
            have hI : hv_I D CL b0 g3 s.heap H locs := by rw [eg3]; exact hI
            have h4 : g3 x = some (.inr (0, [.ref la, .int (nI n), .ref ma, .int (nI bn), .ref mk])) := by rw [eg3]; rw [hv_up_ne _ _ (hv_nn hx0 hnq2)]; exact hx0
            have h5 : g3 la = some (.inl (cA 3, 100, .inr (.inr (.inr (.inr gl))))) := by rw [eg3]; rw [hv_up_ne _ _ (hv_nn hla hnq2)]; exact hla
            have h6 : g3 q2 = some (.inr (2, [.int 0, .int 0, .int 0, .int 0, .null, .int 0])) := by rw [eg3]; exact hv_up_self _ _ _
            refine lv_dup hx hb d_BP_leaf_63 rfl ?_
            refine lv_iload_n hx hb d_BP_leaf_64 rfl (lv_at hl 1 rfl) ?_
            refine lv_iload_n hx hb d_BP_leaf_65 rfl (lv_at hl 2 rfl) ?_
            refine lv_iload_n hx hb d_BP_leaf_66 rfl (lv_at hl 3 rfl) ?_
            refine lv_iload hx hb d_BP_leaf_67 (lv_at hl 4 rfl) ?_
            refine lv_null hx hb d_BP_leaf_69 ?_
            refine lv_iconst (v := 0) hx hb d_BP_leaf_70 (by decide) ?_
            have hfq : f q2 = none := hnq2
            have hfo : ∀ z, z ≠ x → z ≠ la → z ≠ q2 → g3 z = f z := fun z z1 z2 z3 => by rw [eg3, hv_up_ne _ _ z3]
            refine hv_CN (As := [.int t, .int w, .int h, .int d, .null, .int 0]) (rest := [.ref q2, .ref x]) hE hml hK hI (c_Solid_init l hl0 b0 D cA g3 q2 t w h d 0 h6) cd_Solid_init rfl w179 w180 rfl hl.1 (Nat.le_of_ble_eq_true rfl) d_BP_leaf_71 ⟨by decide, by decide⟩ ⟨by decide, by decide⟩ (fun v9 g7 H locs hp hI => ?_) (fun q9 E9 ce9 g9 H locs hp => hp.elim)
            obtain ⟨hv, egs⟩ := hp
            rw [hv]
            refine W.eq (g2 := F0 m 74 ls [.ref q2, .ref x]) rfl ?_
            have hgs : g7 q2 = some (.inr (2, [.int t, .int w, .int h, .int d, .null, .int 0])) := by rw [egs]; exact hv_up_self _ _ _
            have hfo : ∀ z, z ≠ x → z ≠ la → z ≠ q2 → g7 z = f z := fun z z1 z2 z3 => by rw [egs, hv_up_ne _ _ z3]; exact hfo z z1 z2 z3
            have h8 : g7 x = some (.inr (0, [.ref la, .int (nI n), .ref ma, .int (nI bn), .ref mk])) := by rw [egs, hv_up_ne _ _ (hv_ne h4 h6 (by simp))]; exact h4
            have h9 : g7 la = some (.inl (cA 3, 100, .inr (.inr (.inr (.inr gl))))) := by rw [egs, hv_up_ne _ _ (hv_ne h5 h6 (by simp))]; exact h5
            refine hv_V (As := [.ref q2]) (rest := []) hE hml hK hI (c_BP_appendS l hl0 b0 D cA g7 x la ma mk n bn q2 gl [.int t, .int w, .int h, .int d, .null, .int 0] h8 h9 hgs hn1) cd_BP_append w216 w218 ws2 h8 rfl rfl hl.1 (Nat.le_of_ble_eq_true rfl) d_BP_leaf_74 ⟨by decide, by decide⟩ ⟨by decide, by decide⟩ (fun v9 g10 H locs hp hI => ?_) (fun q9 E9 ce9 g9 H locs hp => hp.elim)
            obtain ⟨hv, ega⟩ := hp
            rw [hv]
            refine W.eq (g2 := F0 m 77 ls [.int (nI n)]) rfl ?_
            have hg1 : g10 x = some (bpE la ma mk (n + 1) bn) := by rw [ega]; exact hv_up_self _ _ _
            have hg2 : g10 la = some (.inl (cA 3, 100, .inr (.inr (.inr (.inr (va_up gl n (some q2))))))) := by rw [ega, hv_up_ne _ _ (hv_ne h9 h8 (by simp))]; exact hv_up_self _ _ _
            have hg3 : g10 q2 = some (.inr (2, [.int t, .int w, .int h, .int d, .null, .int 0])) := by rw [ega, hv_up_ne _ _ (hv_ne hgs h8 (by simp)), hv_up_ne _ _ (hv_ne hgs h9 (by simp))]; exact hgs
            have hfo : ∀ z, z ≠ x → z ≠ la → z ≠ q2 → g10 z = f z := fun z z1 z2 z3 => by rw [ega, hv_up_ne _ _ z1, hv_up_ne _ _ z2]; exact hfo z z1 z2 z3
            exact hv_iret hE hr hlocks hI hK (v := nI n) (⟨rfl, by simp [okLeaf, c1, c7, k25, k33, k42], hn1, q2, hfq, hg1, hg2, hg3, hfo⟩) (by decide) (by decide) d_BP_leaf_77
          · skip
            have k42 := b2i_f c42
            exact hv_throw hE hl0 (cls := "java/lang/IllegalArgumentException") (text := "the width, height or depth is no size") (names := NMS) (by decide) (by decide) hI hK (hv_thr tw_IAE (by decide)) (by rw [hml]; exact hl.1) d_BP_leaf_45 d_BP_leaf_48 d_BP_leaf_49 d_BP_leaf_51 d_BP_leaf_54 hout (by decide) (by decide) hlocks (Or.inl ⟨rfl, by simp [okLeaf, c1, c7, k25, k33, k42], rfl⟩) (by decide) (by decide) (by decide) (by decide)
    · skip
      exact hv_throw hE hl0 (cls := "java/lang/IllegalArgumentException") (text := "the tag is not 0 .. 65535") (names := NMS) (by decide) (by decide) hI hK (hv_thr tw_IAE (by decide)) (by rw [hml]; exact hl.1) d_BP_leaf_10 d_BP_leaf_13 d_BP_leaf_14 d_BP_leaf_16 d_BP_leaf_19 hout (by decide) (by decide) hlocks (Or.inl ⟨rfl, by simp [okLeaf, c1, c7], rfl⟩) (by decide) (by decide) (by decide) (by decide)

set_option maxHeartbeats 4000000 in
set_option maxRecDepth 100000 in
theorem c_BP_rule (l : Launch) (hl0 : l.stackTraces = false) (b0 : Nat) (D : va_G) (cA : Nat → ClassId) (f : hv_M) (x la ma mk n bn : Nat) (w h d : Int32) (gl : Nat → Option Nat) (hx0 : f x = some (.inr (0, [.ref la, .int (nI n), .ref ma, .int (nI bn), .ref mk]))) (hla : f la = some (.inl (cA 3, 100, .inr (.inr (.inr (.inr gl)))))) (hn : n < 2 ^ 31) : hv_Met l y_BP_rule [Cond.code y_BP_rule b_BP_rule 4 (some FieldType.int)] (RM 4 3 18) b0 (Fa D cA) D CL [.ref x, .int w, .int h, .int d] f (fun v g => v = some (.int (nI n)) ∧ okRule w h d = true ∧ n < 100 ∧ addedI cA f g x la ma mk n bn gl (itE (.inl (-1, w, h, d, none, 0)))) (fun E g => (E = "java/lang/IllegalArgumentException" ∧ okRule w h d = false ∧ g = f) ∨ (E = "java/lang/UnsupportedOperationException" ∧ okRule w h d = true ∧ 100 ≤ n ∧ g = f)) := by
  refine hv_Met.of (own := "BoxPacker") (by decide) rfl (Nat.le_of_ble_eq_true rfl) ?_
  intro p e s m below meth c hE hml hout hr hlocks hname hK hI ls hl
  have hl : lv_has ls 4 [(0, .ref x), (1, .int w), (2, .int h), (3, .int d)] := hl
  obtain ⟨hx, hb, hown, hts, hVK⟩ := id hE
  refine lv_iload_n hx hb d_BP_rule_0 rfl (lv_at hl 1 rfl) ?_
  refine hv_Sp (As := [.int w]) (rest := []) hE hml hK hI (c_BP_isSizeOrRunning l hl0 b0 D cA f w) cd_BP_isSizeOrRunning w227 w228 rfl rfl rfl hl.1 (Nat.le_of_ble_eq_true rfl) d_BP_rule_1 ⟨by decide, by decide⟩ ⟨by decide, by decide⟩ (fun H locs hI => ?_)
  refine W.eq (g2 := F0 m 4 ls [.int (b2i (szr w))]) rfl ?_
  refine lv_if_eq (tgt := 21) hx hb d_BP_rule_4 (by decide) (fun c4 => ?_) (fun c4 => ?_)
  · skip
    have k4 := b2i_f c4
    exact hv_throw hE hl0 (cls := "java/lang/IllegalArgumentException") (text := "the width, height or depth is neither a size nor RUNNING") (names := NMS) (by decide) (by decide) hI hK (hv_thr tw_IAE (by decide)) (by rw [hml]; exact hl.1) d_BP_rule_21 d_BP_rule_24 d_BP_rule_25 d_BP_rule_27 d_BP_rule_30 hout (by decide) (by decide) hlocks (Or.inl ⟨rfl, by simp [okRule, k4], rfl⟩) (by decide) (by decide) (by decide) (by decide)
  · skip
    have k4 := b2i_t c4
    refine lv_iload_n hx hb d_BP_rule_7 rfl (lv_at hl 2 rfl) ?_
    refine hv_Sp (As := [.int h]) (rest := []) hE hml hK hI (c_BP_isSizeOrRunning l hl0 b0 D cA f h) cd_BP_isSizeOrRunning w227 w228 rfl rfl rfl hl.1 (Nat.le_of_ble_eq_true rfl) d_BP_rule_8 ⟨by decide, by decide⟩ ⟨by decide, by decide⟩ (fun H locs hI => ?_)
    refine W.eq (g2 := F0 m 11 ls [.int (b2i (szr h))]) rfl ?_
    refine lv_if_eq (tgt := 21) hx hb d_BP_rule_11 (by decide) (fun c11 => ?_) (fun c11 => ?_)
    · skip
      have k11 := b2i_f c11
      exact hv_throw hE hl0 (cls := "java/lang/IllegalArgumentException") (text := "the width, height or depth is neither a size nor RUNNING") (names := NMS) (by decide) (by decide) hI hK (hv_thr tw_IAE (by decide)) (by rw [hml]; exact hl.1) d_BP_rule_21 d_BP_rule_24 d_BP_rule_25 d_BP_rule_27 d_BP_rule_30 hout (by decide) (by decide) hlocks (Or.inl ⟨rfl, by simp [okRule, k4, k11], rfl⟩) (by decide) (by decide) (by decide) (by decide)
    · skip
      have k11 := b2i_t c11
      refine lv_iload_n hx hb d_BP_rule_14 rfl (lv_at hl 3 rfl) ?_
      refine hv_Sp (As := [.int d]) (rest := []) hE hml hK hI (c_BP_isSizeOrRunning l hl0 b0 D cA f d) cd_BP_isSizeOrRunning w227 w228 rfl rfl rfl hl.1 (Nat.le_of_ble_eq_true rfl) d_BP_rule_15 ⟨by decide, by decide⟩ ⟨by decide, by decide⟩ (fun H locs hI => ?_)
      refine W.eq (g2 := F0 m 18 ls [.int (b2i (szr d))]) rfl ?_
      refine lv_if_ne (tgt := 31) hx hb d_BP_rule_18 (by decide) (fun c18 => ?_) (fun c18 => ?_)
      · skip
        have k18 := b2i_t c18
        refine lv_aload_n hx hb d_BP_rule_31 rfl (lv_at hl 0 rfl) ?_
        refine hv_V (As := []) (rest := []) hE hml hK hI (c_BP_refuseWhenFull l hl0 b0 D cA f x la ma mk n bn hx0 hn) cd_BP_refuseWhenFull w157 w159 ws1 hx0 rfl rfl hl.1 (Nat.le_of_ble_eq_true rfl) d_BP_rule_32 ⟨by decide, by decide⟩ ⟨by decide, by decide⟩ (fun v9 g1 H locs hp hI => ?_) (fun q9 E9 ce9 g9 H locs hp hI hce hcv hcl => ?_)
        rotate_left
        · skip
          obtain ⟨hE9, hg9, hc9⟩ := hp
          rw [hE9] at hcl
          rw [hg9] at hI
          exact hv_out hout hlocks hI hK hce hcv hcl (Or.inr ⟨rfl, by simp [okRule, k4, k11, k18], hc9, rfl⟩) (by decide) (by decide)
        obtain ⟨hv, hg9, hn1⟩ := hp
        rw [hv]
        rw [hg9] at hI
        refine W.eq (g2 := F0 m 35 ls []) rfl ?_
        refine lv_aload_n hx hb d_BP_rule_35 rfl (lv_at hl 0 rfl) ?_
        refine hv_new hE k_Solid hI w177 w178 w10 (fs := [.int 0, .int 0, .int 0, .int 0, .null, .int 0]) (by decide +kernel) (by decide) (by decide) d_BP_rule_36 (fun q2 H hnq2 hI => ?_)
        obtain ⟨g3, eg3⟩ : ∃ z : hv_M, z = hv_up f q2 (.inr (2, [.int 0, .int 0, .int 0, .int 0, .null, .int 0])) := ⟨_, rfl⟩
        have hI : hv_I D CL b0 g3 s.heap H locs := by rw [eg3]; exact hI
        have h4 : g3 x = some (.inr (0, [.ref la, .int (nI n), .ref ma, .int (nI bn), .ref mk])) := by rw [eg3]; rw [hv_up_ne _ _ (hv_nn hx0 hnq2)]; exact hx0
        have h5 : g3 la = some (.inl (cA 3, 100, .inr (.inr (.inr (.inr gl))))) := by rw [eg3]; rw [hv_up_ne _ _ (hv_nn hla hnq2)]; exact hla
        have h6 : g3 q2 = some (.inr (2, [.int 0, .int 0, .int 0, .int 0, .null, .int 0])) := by rw [eg3]; exact hv_up_self _ _ _
        refine lv_dup hx hb d_BP_rule_39 rfl ?_
        refine lv_iconst (v := (-1)) hx hb d_BP_rule_40 (by decide) ?_
        refine lv_iload_n hx hb d_BP_rule_41 rfl (lv_at hl 1 rfl) ?_
        refine lv_iload_n hx hb d_BP_rule_42 rfl (lv_at hl 2 rfl) ?_
        refine lv_iload_n hx hb d_BP_rule_43 rfl (lv_at hl 3 rfl) ?_
        refine lv_null hx hb d_BP_rule_44 ?_
        refine lv_iconst (v := 0) hx hb d_BP_rule_45 (by decide) ?_
        have hfq : f q2 = none := hnq2
        have hfo : ∀ z, z ≠ x → z ≠ la → z ≠ q2 → g3 z = f z := fun z z1 z2 z3 => by rw [eg3, hv_up_ne _ _ z3]
        refine hv_CN (As := [.int (-1), .int w, .int h, .int d, .null, .int 0]) (rest := [.ref q2, .ref x]) hE hml hK hI (c_Solid_init l hl0 b0 D cA g3 q2 (-1) w h d 0 h6) cd_Solid_init rfl w179 w180 rfl hl.1 (Nat.le_of_ble_eq_true rfl) d_BP_rule_46 ⟨by decide, by decide⟩ ⟨by decide, by decide⟩ (fun v9 g7 H locs hp hI => ?_) (fun q9 E9 ce9 g9 H locs hp => hp.elim)
        obtain ⟨hv, egs⟩ := hp
        rw [hv]
        refine W.eq (g2 := F0 m 49 ls [.ref q2, .ref x]) rfl ?_
        have hgs : g7 q2 = some (.inr (2, [.int (-1), .int w, .int h, .int d, .null, .int 0])) := by rw [egs]; exact hv_up_self _ _ _
        have hfo : ∀ z, z ≠ x → z ≠ la → z ≠ q2 → g7 z = f z := fun z z1 z2 z3 => by rw [egs, hv_up_ne _ _ z3]; exact hfo z z1 z2 z3
        have h8 : g7 x = some (.inr (0, [.ref la, .int (nI n), .ref ma, .int (nI bn), .ref mk])) := by rw [egs, hv_up_ne _ _ (hv_ne h4 h6 (by simp))]; exact h4
        have h9 : g7 la = some (.inl (cA 3, 100, .inr (.inr (.inr (.inr gl))))) := by rw [egs, hv_up_ne _ _ (hv_ne h5 h6 (by simp))]; exact h5
        refine hv_V (As := [.ref q2]) (rest := []) hE hml hK hI (c_BP_appendS l hl0 b0 D cA g7 x la ma mk n bn q2 gl [.int (-1), .int w, .int h, .int d, .null, .int 0] h8 h9 hgs hn1) cd_BP_append w216 w218 ws2 h8 rfl rfl hl.1 (Nat.le_of_ble_eq_true rfl) d_BP_rule_49 ⟨by decide, by decide⟩ ⟨by decide, by decide⟩ (fun v9 g10 H locs hp hI => ?_) (fun q9 E9 ce9 g9 H locs hp => hp.elim)
        obtain ⟨hv, ega⟩ := hp
        rw [hv]
        refine W.eq (g2 := F0 m 52 ls [.int (nI n)]) rfl ?_
        have hg1 : g10 x = some (bpE la ma mk (n + 1) bn) := by rw [ega]; exact hv_up_self _ _ _
        have hg2 : g10 la = some (.inl (cA 3, 100, .inr (.inr (.inr (.inr (va_up gl n (some q2))))))) := by rw [ega, hv_up_ne _ _ (hv_ne h9 h8 (by simp))]; exact hv_up_self _ _ _
        have hg3 : g10 q2 = some (.inr (2, [.int (-1), .int w, .int h, .int d, .null, .int 0])) := by rw [ega, hv_up_ne _ _ (hv_ne hgs h8 (by simp)), hv_up_ne _ _ (hv_ne hgs h9 (by simp))]; exact hgs
        have hfo : ∀ z, z ≠ x → z ≠ la → z ≠ q2 → g10 z = f z := fun z z1 z2 z3 => by rw [ega, hv_up_ne _ _ z1, hv_up_ne _ _ z2]; exact hfo z z1 z2 z3
        exact hv_iret hE hr hlocks hI hK (v := nI n) (⟨rfl, by simp [okRule, k4, k11, k18], hn1, q2, hfq, hg1, hg2, hg3, hfo⟩) (by decide) (by decide) d_BP_rule_52
      · skip
        have k18 := b2i_f c18
        exact hv_throw hE hl0 (cls := "java/lang/IllegalArgumentException") (text := "the width, height or depth is neither a size nor RUNNING") (names := NMS) (by decide) (by decide) hI hK (hv_thr tw_IAE (by decide)) (by rw [hml]; exact hl.1) d_BP_rule_21 d_BP_rule_24 d_BP_rule_25 d_BP_rule_27 d_BP_rule_30 hout (by decide) (by decide) hlocks (Or.inl ⟨rfl, by simp [okRule, k4, k11, k18], rfl⟩) (by decide) (by decide) (by decide) (by decide)

set_option maxHeartbeats 4000000 in
set_option maxRecDepth 100000 in
theorem c_BP_glue (l : Launch) (hl0 : l.stackTraces = false) (b0 : Nat) (D : va_G) (cA : Nat → ClassId) (f : hv_M) (x la ma mk n bn : Nat) (w a b d z : Int32) (gl : Nat → Option Nat) (hx0 : f x = some (.inr (0, [.ref la, .int (nI n), .ref ma, .int (nI bn), .ref mk]))) (hla : f la = some (.inl (cA 3, 100, .inr (.inr (.inr (.inr gl)))))) (hn : n < 2 ^ 31) : hv_Met l y_BP_glue [Cond.code y_BP_glue b_BP_glue 6 (some FieldType.int)] (RM 4 3 18) b0 (Fa D cA) D CL [.ref x, .int w, .int a, .int b, .int d, .int z] f (fun v g => v = some (.int (nI n)) ∧ okGlue w a b d z = true ∧ n < 100 ∧ addedI cA f g x la ma mk n bn gl (itE (.inr (w, a, b, d, z)))) (fun E g => (E = "java/lang/IllegalArgumentException" ∧ okGlue w a b d z = false ∧ g = f) ∨ (E = "java/lang/UnsupportedOperationException" ∧ okGlue w a b d z = true ∧ 100 ≤ n ∧ g = f)) := by
  refine hv_Met.of (own := "BoxPacker") (by decide) rfl (Nat.le_of_ble_eq_true rfl) ?_
  intro p e s m below meth c hE hml hout hr hlocks hname hK hI ls hl
  have hl : lv_has ls 6 [(0, .ref x), (1, .int w), (2, .int a), (3, .int b), (4, .int d), (5, .int z)] := hl
  obtain ⟨hx, hb, hown, hts, hVK⟩ := id hE
  refine lv_iload_n hx hb d_BP_glue_0 rfl (lv_at hl 1 rfl) ?_
  refine lv_i2l (v := w.toInt64) hx hb d_BP_glue_1 rfl ?_
  refine hv_Sp (As := [.long w.toInt64]) (rest := []) hE hml hK hI (c_BP_isSize l hl0 b0 D cA f w.toInt64) cd_BP_isSize w151 w152 rfl rfl rfl hl.1 (Nat.le_of_ble_eq_true rfl) d_BP_glue_2 ⟨by decide, by decide⟩ ⟨by decide, by decide⟩ (fun H locs hI => ?_)
  refine W.eq (g2 := F0 m 5 ls [.int (b2i (sz w.toInt64))]) rfl ?_
  refine lv_if_ne (tgt := 18) hx hb d_BP_glue_5 (by decide) (fun c5 => ?_) (fun c5 => ?_)
  · skip
    have k5 := b2i_t c5
    refine lv_iload_n hx hb d_BP_glue_18 rfl (lv_at hl 2 rfl) ?_
    refine lv_i2l (v := a.toInt64) hx hb d_BP_glue_19 rfl ?_
    refine hv_Sp (As := [.long a.toInt64]) (rest := []) hE hml hK hI (c_BP_isSize l hl0 b0 D cA f a.toInt64) cd_BP_isSize w151 w152 rfl rfl rfl hl.1 (Nat.le_of_ble_eq_true rfl) d_BP_glue_20 ⟨by decide, by decide⟩ ⟨by decide, by decide⟩ (fun H locs hI => ?_)
    refine W.eq (g2 := F0 m 23 ls [.int (b2i (sz a.toInt64))]) rfl ?_
    refine lv_if_eq (tgt := 44) hx hb d_BP_glue_23 (by decide) (fun c23 => ?_) (fun c23 => ?_)
    · skip
      have k23 := b2i_f c23
      exact hv_throw hE hl0 (cls := "java/lang/IllegalArgumentException") (text := "the stretch or shrink is no size or below 0") (names := NMS) (by decide) (by decide) hI hK (hv_thr tw_IAE (by decide)) (by rw [hml]; exact hl.1) d_BP_glue_44 d_BP_glue_47 d_BP_glue_48 d_BP_glue_50 d_BP_glue_53 hout (by decide) (by decide) hlocks (Or.inl ⟨rfl, by simp [okGlue, k5, k23], rfl⟩) (by decide) (by decide) (by decide) (by decide)
    · skip
      have k23 := b2i_t c23
      refine lv_iload_n hx hb d_BP_glue_26 rfl (lv_at hl 2 rfl) ?_
      refine lv_if_lt (tgt := 44) hx hb d_BP_glue_27 (by decide) (fun c27 => ?_) (fun c27 => ?_)
      · skip
        exact hv_throw hE hl0 (cls := "java/lang/IllegalArgumentException") (text := "the stretch or shrink is no size or below 0") (names := NMS) (by decide) (by decide) hI hK (hv_thr tw_IAE (by decide)) (by rw [hml]; exact hl.1) d_BP_glue_44 d_BP_glue_47 d_BP_glue_48 d_BP_glue_50 d_BP_glue_53 hout (by decide) (by decide) hlocks (Or.inl ⟨rfl, by simp [okGlue, k5, k23, c27], rfl⟩) (by decide) (by decide) (by decide) (by decide)
      · skip
        refine lv_iload hx hb d_BP_glue_30 (lv_at hl 4 rfl) ?_
        refine lv_i2l (v := d.toInt64) hx hb d_BP_glue_32 rfl ?_
        refine hv_Sp (As := [.long d.toInt64]) (rest := []) hE hml hK hI (c_BP_isSize l hl0 b0 D cA f d.toInt64) cd_BP_isSize w151 w152 rfl rfl rfl hl.1 (Nat.le_of_ble_eq_true rfl) d_BP_glue_33 ⟨by decide, by decide⟩ ⟨by decide, by decide⟩ (fun H locs hI => ?_)
        refine W.eq (g2 := F0 m 36 ls [.int (b2i (sz d.toInt64))]) rfl ?_
        refine lv_if_eq (tgt := 44) hx hb d_BP_glue_36 (by decide) (fun c36 => ?_) (fun c36 => ?_)
        · skip
          have k36 := b2i_f c36
          exact hv_throw hE hl0 (cls := "java/lang/IllegalArgumentException") (text := "the stretch or shrink is no size or below 0") (names := NMS) (by decide) (by decide) hI hK (hv_thr tw_IAE (by decide)) (by rw [hml]; exact hl.1) d_BP_glue_44 d_BP_glue_47 d_BP_glue_48 d_BP_glue_50 d_BP_glue_53 hout (by decide) (by decide) hlocks (Or.inl ⟨rfl, by simp [okGlue, k5, k23, c27, k36], rfl⟩) (by decide) (by decide) (by decide) (by decide)
        · skip
          have k36 := b2i_t c36
          refine lv_iload hx hb d_BP_glue_39 (lv_at hl 4 rfl) ?_
          refine lv_if_ge (tgt := 54) hx hb d_BP_glue_41 (by decide) (fun c41 => ?_) (fun c41 => ?_)
          · skip
            refine lv_iload_n hx hb d_BP_glue_54 rfl (lv_at hl 3 rfl) ?_
            refine hv_Sp (As := [.int b]) (rest := []) hE hml hK hI (c_BP_isOrder l hl0 b0 D cA f b) cd_BP_isOrder w241 w242 rfl rfl rfl hl.1 (Nat.le_of_ble_eq_true rfl) d_BP_glue_55 ⟨by decide, by decide⟩ ⟨by decide, by decide⟩ (fun H locs hI => ?_)
            refine W.eq (g2 := F0 m 58 ls [.int (b2i (ord4 b))]) rfl ?_
            refine lv_if_eq (tgt := 69) hx hb d_BP_glue_58 (by decide) (fun c58 => ?_) (fun c58 => ?_)
            · skip
              have k58 := b2i_f c58
              exact hv_throw hE hl0 (cls := "java/lang/IllegalArgumentException") (text := "an order is not 0 .. 3") (names := NMS) (by decide) (by decide) hI hK (hv_thr tw_IAE (by decide)) (by rw [hml]; exact hl.1) d_BP_glue_69 d_BP_glue_72 d_BP_glue_73 d_BP_glue_75 d_BP_glue_78 hout (by decide) (by decide) hlocks (Or.inl ⟨rfl, by simp [okGlue, k5, k23, c27, k36, c41, k58], rfl⟩) (by decide) (by decide) (by decide) (by decide)
            · skip
              have k58 := b2i_t c58
              refine lv_iload hx hb d_BP_glue_61 (lv_at hl 5 rfl) ?_
              refine hv_Sp (As := [.int z]) (rest := []) hE hml hK hI (c_BP_isOrder l hl0 b0 D cA f z) cd_BP_isOrder w241 w242 rfl rfl rfl hl.1 (Nat.le_of_ble_eq_true rfl) d_BP_glue_63 ⟨by decide, by decide⟩ ⟨by decide, by decide⟩ (fun H locs hI => ?_)
              refine W.eq (g2 := F0 m 66 ls [.int (b2i (ord4 z))]) rfl ?_
              refine lv_if_ne (tgt := 79) hx hb d_BP_glue_66 (by decide) (fun c66 => ?_) (fun c66 => ?_)
              · skip
                have k66 := b2i_t c66
                refine lv_aload_n hx hb d_BP_glue_79 rfl (lv_at hl 0 rfl) ?_
                refine hv_V (As := []) (rest := []) hE hml hK hI (c_BP_refuseWhenFull l hl0 b0 D cA f x la ma mk n bn hx0 hn) cd_BP_refuseWhenFull w157 w159 ws1 hx0 rfl rfl hl.1 (Nat.le_of_ble_eq_true rfl) d_BP_glue_80 ⟨by decide, by decide⟩ ⟨by decide, by decide⟩ (fun v9 g1 H locs hp hI => ?_) (fun q9 E9 ce9 g9 H locs hp hI hce hcv hcl => ?_)
                rotate_left
                · skip
                  obtain ⟨hE9, hg9, hc9⟩ := hp
                  rw [hE9] at hcl
                  rw [hg9] at hI
                  exact hv_out hout hlocks hI hK hce hcv hcl (Or.inr ⟨rfl, by simp [okGlue, k5, k23, c27, k36, c41, k58, k66], hc9, rfl⟩) (by decide) (by decide)
                obtain ⟨hv, hg9, hn1⟩ := hp
                rw [hv]
                rw [hg9] at hI
                refine W.eq (g2 := F0 m 83 ls []) rfl ?_
                refine lv_aload_n hx hb d_BP_glue_83 rfl (lv_at hl 0 rfl) ?_
                refine hv_new hE k_Space hI w245 w246 w11 (fs := [.int 0, .int 0, .int 0, .int 0, .int 0]) (by decide +kernel) (by decide) (by decide) d_BP_glue_84 (fun q2 H hnq2 hI => ?_)
                obtain ⟨g3, eg3⟩ : ∃ z : hv_M, z = hv_up f q2 (.inr (3, [.int 0, .int 0, .int 0, .int 0, .int 0])) := ⟨_, rfl⟩
                have hI : hv_I D CL b0 g3 s.heap H locs := by rw [eg3]; exact hI
                have h4 : g3 x = some (.inr (0, [.ref la, .int (nI n), .ref ma, .int (nI bn), .ref mk])) := by rw [eg3]; rw [hv_up_ne _ _ (hv_nn hx0 hnq2)]; exact hx0
                have h5 : g3 la = some (.inl (cA 3, 100, .inr (.inr (.inr (.inr gl))))) := by rw [eg3]; rw [hv_up_ne _ _ (hv_nn hla hnq2)]; exact hla
                have h6 : g3 q2 = some (.inr (3, [.int 0, .int 0, .int 0, .int 0, .int 0])) := by rw [eg3]; exact hv_up_self _ _ _
                refine lv_dup hx hb d_BP_glue_87 rfl ?_
                refine lv_iload_n hx hb d_BP_glue_88 rfl (lv_at hl 1 rfl) ?_
                refine lv_iload_n hx hb d_BP_glue_89 rfl (lv_at hl 2 rfl) ?_
                refine lv_iload_n hx hb d_BP_glue_90 rfl (lv_at hl 3 rfl) ?_
                refine lv_iload hx hb d_BP_glue_91 (lv_at hl 4 rfl) ?_
                refine lv_iload hx hb d_BP_glue_93 (lv_at hl 5 rfl) ?_
                have hfq : f q2 = none := hnq2
                have hfo : ∀ z, z ≠ x → z ≠ la → z ≠ q2 → g3 z = f z := fun z z1 z2 z3 => by rw [eg3, hv_up_ne _ _ z3]
                refine hv_CN (As := [.int w, .int a, .int b, .int d, .int z]) (rest := [.ref q2, .ref x]) hE hml hK hI (c_Space_init l hl0 b0 D cA g3 q2 w a b d z h6) cd_Space_init rfl w247 w248 rfl hl.1 (Nat.le_of_ble_eq_true rfl) d_BP_glue_95 ⟨by decide, by decide⟩ ⟨by decide, by decide⟩ (fun v9 g7 H locs hp hI => ?_) (fun q9 E9 ce9 g9 H locs hp => hp.elim)
                obtain ⟨hv, egs⟩ := hp
                rw [hv]
                refine W.eq (g2 := F0 m 98 ls [.ref q2, .ref x]) rfl ?_
                have hgs : g7 q2 = some (.inr (3, [.int w, .int a, .int b, .int d, .int z])) := by rw [egs]; exact hv_up_self _ _ _
                have hfo : ∀ z, z ≠ x → z ≠ la → z ≠ q2 → g7 z = f z := fun z z1 z2 z3 => by rw [egs, hv_up_ne _ _ z3]; exact hfo z z1 z2 z3
                have h8 : g7 x = some (.inr (0, [.ref la, .int (nI n), .ref ma, .int (nI bn), .ref mk])) := by rw [egs, hv_up_ne _ _ (hv_ne h4 h6 (by simp))]; exact h4
                have h9 : g7 la = some (.inl (cA 3, 100, .inr (.inr (.inr (.inr gl))))) := by rw [egs, hv_up_ne _ _ (hv_ne h5 h6 (by simp))]; exact h5
                refine hv_V (As := [.ref q2]) (rest := []) hE hml hK hI (c_BP_appendP l hl0 b0 D cA g7 x la ma mk n bn q2 gl [.int w, .int a, .int b, .int d, .int z] h8 h9 hgs hn1) cd_BP_append w216 w218 ws2 h8 rfl rfl hl.1 (Nat.le_of_ble_eq_true rfl) d_BP_glue_98 ⟨by decide, by decide⟩ ⟨by decide, by decide⟩ (fun v9 g10 H locs hp hI => ?_) (fun q9 E9 ce9 g9 H locs hp => hp.elim)
                obtain ⟨hv, ega⟩ := hp
                rw [hv]
                refine W.eq (g2 := F0 m 101 ls [.int (nI n)]) rfl ?_
                have hg1 : g10 x = some (bpE la ma mk (n + 1) bn) := by rw [ega]; exact hv_up_self _ _ _
                have hg2 : g10 la = some (.inl (cA 3, 100, .inr (.inr (.inr (.inr (va_up gl n (some q2))))))) := by rw [ega, hv_up_ne _ _ (hv_ne h9 h8 (by simp))]; exact hv_up_self _ _ _
                have hg3 : g10 q2 = some (.inr (3, [.int w, .int a, .int b, .int d, .int z])) := by rw [ega, hv_up_ne _ _ (hv_ne hgs h8 (by simp)), hv_up_ne _ _ (hv_ne hgs h9 (by simp))]; exact hgs
                have hfo : ∀ z, z ≠ x → z ≠ la → z ≠ q2 → g10 z = f z := fun z z1 z2 z3 => by rw [ega, hv_up_ne _ _ z1, hv_up_ne _ _ z2]; exact hfo z z1 z2 z3
                exact hv_iret hE hr hlocks hI hK (v := nI n) (⟨rfl, by simp [okGlue, k5, k23, c27, k36, c41, k58, k66], hn1, q2, hfq, hg1, hg2, hg3, hfo⟩) (by decide) (by decide) d_BP_glue_101
              · skip
                have k66 := b2i_f c66
                exact hv_throw hE hl0 (cls := "java/lang/IllegalArgumentException") (text := "an order is not 0 .. 3") (names := NMS) (by decide) (by decide) hI hK (hv_thr tw_IAE (by decide)) (by rw [hml]; exact hl.1) d_BP_glue_69 d_BP_glue_72 d_BP_glue_73 d_BP_glue_75 d_BP_glue_78 hout (by decide) (by decide) hlocks (Or.inl ⟨rfl, by simp [okGlue, k5, k23, c27, k36, c41, k58, k66], rfl⟩) (by decide) (by decide) (by decide) (by decide)
          · skip
            exact hv_throw hE hl0 (cls := "java/lang/IllegalArgumentException") (text := "the stretch or shrink is no size or below 0") (names := NMS) (by decide) (by decide) hI hK (hv_thr tw_IAE (by decide)) (by rw [hml]; exact hl.1) d_BP_glue_44 d_BP_glue_47 d_BP_glue_48 d_BP_glue_50 d_BP_glue_53 hout (by decide) (by decide) hlocks (Or.inl ⟨rfl, by simp [okGlue, k5, k23, c27, k36, c41], rfl⟩) (by decide) (by decide) (by decide) (by decide)
  · skip
    have k5 := b2i_f c5
    exact hv_throw hE hl0 (cls := "java/lang/IllegalArgumentException") (text := "the width is no size") (names := NMS) (by decide) (by decide) hI hK (hv_thr tw_IAE (by decide)) (by rw [hml]; exact hl.1) d_BP_glue_8 d_BP_glue_11 d_BP_glue_12 d_BP_glue_14 d_BP_glue_17 hout (by decide) (by decide) hlocks (Or.inl ⟨rfl, by simp [okGlue, k5], rfl⟩) (by decide) (by decide) (by decide) (by decide)

set_option maxHeartbeats 4000000 in
set_option maxRecDepth 100000 in
theorem c_BP_kern (l : Launch) (hl0 : l.stackTraces = false) (b0 : Nat) (D : va_G) (cA : Nat → ClassId) (f : hv_M) (x la ma mk n bn : Nat) (w : Int32) (gl : Nat → Option Nat) (hx0 : f x = some (.inr (0, [.ref la, .int (nI n), .ref ma, .int (nI bn), .ref mk]))) (hla : f la = some (.inl (cA 3, 100, .inr (.inr (.inr (.inr gl)))))) (hn : n < 2 ^ 31) : hv_Met l y_BP_kern [Cond.code y_BP_kern b_BP_kern 2 (some FieldType.int)] (RM 4 3 18) b0 (Fa D cA) D CL [.ref x, .int w] f (fun v g => v = some (.int (nI n)) ∧ sz w.toInt64 = true ∧ n < 100 ∧ addedI cA f g x la ma mk n bn gl (itE (.inr (w, 0, 0, 0, 0)))) (fun E g => (E = "java/lang/IllegalArgumentException" ∧ sz w.toInt64 = false ∧ g = f) ∨ (E = "java/lang/UnsupportedOperationException" ∧ sz w.toInt64 = true ∧ 100 ≤ n ∧ g = f)) := by
  refine hv_Met.of (own := "BoxPacker") (by decide) rfl (Nat.le_of_ble_eq_true rfl) ?_
  intro p e s m below meth c hE hml hout hr hlocks hname hK hI ls hl
  have hl : lv_has ls 2 [(0, .ref x), (1, .int w)] := hl
  obtain ⟨hx, hb, hown, hts, hVK⟩ := id hE
  refine lv_iload_n hx hb d_BP_kern_0 rfl (lv_at hl 1 rfl) ?_
  refine lv_i2l (v := w.toInt64) hx hb d_BP_kern_1 rfl ?_
  refine hv_Sp (As := [.long w.toInt64]) (rest := []) hE hml hK hI (c_BP_isSize l hl0 b0 D cA f w.toInt64) cd_BP_isSize w151 w152 rfl rfl rfl hl.1 (Nat.le_of_ble_eq_true rfl) d_BP_kern_2 ⟨by decide, by decide⟩ ⟨by decide, by decide⟩ (fun H locs hI => ?_)
  refine W.eq (g2 := F0 m 5 ls [.int (b2i (sz w.toInt64))]) rfl ?_
  refine lv_if_ne (tgt := 18) hx hb d_BP_kern_5 (by decide) (fun c5 => ?_) (fun c5 => ?_)
  · skip
    have k5 := b2i_t c5
    refine lv_aload_n hx hb d_BP_kern_18 rfl (lv_at hl 0 rfl) ?_
    refine hv_V (As := []) (rest := []) hE hml hK hI (c_BP_refuseWhenFull l hl0 b0 D cA f x la ma mk n bn hx0 hn) cd_BP_refuseWhenFull w157 w159 ws1 hx0 rfl rfl hl.1 (Nat.le_of_ble_eq_true rfl) d_BP_kern_19 ⟨by decide, by decide⟩ ⟨by decide, by decide⟩ (fun v9 g1 H locs hp hI => ?_) (fun q9 E9 ce9 g9 H locs hp hI hce hcv hcl => ?_)
    rotate_left
    · skip
      obtain ⟨hE9, hg9, hc9⟩ := hp
      rw [hE9] at hcl
      rw [hg9] at hI
      exact hv_out hout hlocks hI hK hce hcv hcl (Or.inr ⟨rfl, by simp [okLeaf, k5], hc9, rfl⟩) (by decide) (by decide)
    obtain ⟨hv, hg9, hn1⟩ := hp
    rw [hv]
    rw [hg9] at hI
    refine W.eq (g2 := F0 m 22 ls []) rfl ?_
    refine lv_aload_n hx hb d_BP_kern_22 rfl (lv_at hl 0 rfl) ?_
    refine hv_new hE k_Space hI w245 w246 w11 (fs := [.int 0, .int 0, .int 0, .int 0, .int 0]) (by decide +kernel) (by decide) (by decide) d_BP_kern_23 (fun q2 H hnq2 hI => ?_)
    obtain ⟨g3, eg3⟩ : ∃ z : hv_M, z = hv_up f q2 (.inr (3, [.int 0, .int 0, .int 0, .int 0, .int 0])) := ⟨_, rfl⟩
    have hI : hv_I D CL b0 g3 s.heap H locs := by rw [eg3]; exact hI
    have h4 : g3 x = some (.inr (0, [.ref la, .int (nI n), .ref ma, .int (nI bn), .ref mk])) := by rw [eg3]; rw [hv_up_ne _ _ (hv_nn hx0 hnq2)]; exact hx0
    have h5 : g3 la = some (.inl (cA 3, 100, .inr (.inr (.inr (.inr gl))))) := by rw [eg3]; rw [hv_up_ne _ _ (hv_nn hla hnq2)]; exact hla
    have h6 : g3 q2 = some (.inr (3, [.int 0, .int 0, .int 0, .int 0, .int 0])) := by rw [eg3]; exact hv_up_self _ _ _
    refine lv_dup hx hb d_BP_kern_26 rfl ?_
    refine lv_iload_n hx hb d_BP_kern_27 rfl (lv_at hl 1 rfl) ?_
    refine lv_iconst (v := 0) hx hb d_BP_kern_28 (by decide) ?_
    refine lv_iconst (v := 0) hx hb d_BP_kern_29 (by decide) ?_
    refine lv_iconst (v := 0) hx hb d_BP_kern_30 (by decide) ?_
    refine lv_iconst (v := 0) hx hb d_BP_kern_31 (by decide) ?_
    have hfq : f q2 = none := hnq2
    have hfo : ∀ z, z ≠ x → z ≠ la → z ≠ q2 → g3 z = f z := fun z z1 z2 z3 => by rw [eg3, hv_up_ne _ _ z3]
    refine hv_CN (As := [.int w, .int 0, .int 0, .int 0, .int 0]) (rest := [.ref q2, .ref x]) hE hml hK hI (c_Space_init l hl0 b0 D cA g3 q2 w 0 0 0 0 h6) cd_Space_init rfl w247 w248 rfl hl.1 (Nat.le_of_ble_eq_true rfl) d_BP_kern_32 ⟨by decide, by decide⟩ ⟨by decide, by decide⟩ (fun v9 g7 H locs hp hI => ?_) (fun q9 E9 ce9 g9 H locs hp => hp.elim)
    obtain ⟨hv, egs⟩ := hp
    rw [hv]
    refine W.eq (g2 := F0 m 35 ls [.ref q2, .ref x]) rfl ?_
    have hgs : g7 q2 = some (.inr (3, [.int w, .int 0, .int 0, .int 0, .int 0])) := by rw [egs]; exact hv_up_self _ _ _
    have hfo : ∀ z, z ≠ x → z ≠ la → z ≠ q2 → g7 z = f z := fun z z1 z2 z3 => by rw [egs, hv_up_ne _ _ z3]; exact hfo z z1 z2 z3
    have h8 : g7 x = some (.inr (0, [.ref la, .int (nI n), .ref ma, .int (nI bn), .ref mk])) := by rw [egs, hv_up_ne _ _ (hv_ne h4 h6 (by simp))]; exact h4
    have h9 : g7 la = some (.inl (cA 3, 100, .inr (.inr (.inr (.inr gl))))) := by rw [egs, hv_up_ne _ _ (hv_ne h5 h6 (by simp))]; exact h5
    refine hv_V (As := [.ref q2]) (rest := []) hE hml hK hI (c_BP_appendP l hl0 b0 D cA g7 x la ma mk n bn q2 gl [.int w, .int 0, .int 0, .int 0, .int 0] h8 h9 hgs hn1) cd_BP_append w216 w218 ws2 h8 rfl rfl hl.1 (Nat.le_of_ble_eq_true rfl) d_BP_kern_35 ⟨by decide, by decide⟩ ⟨by decide, by decide⟩ (fun v9 g10 H locs hp hI => ?_) (fun q9 E9 ce9 g9 H locs hp => hp.elim)
    obtain ⟨hv, ega⟩ := hp
    rw [hv]
    refine W.eq (g2 := F0 m 38 ls [.int (nI n)]) rfl ?_
    have hg1 : g10 x = some (bpE la ma mk (n + 1) bn) := by rw [ega]; exact hv_up_self _ _ _
    have hg2 : g10 la = some (.inl (cA 3, 100, .inr (.inr (.inr (.inr (va_up gl n (some q2))))))) := by rw [ega, hv_up_ne _ _ (hv_ne h9 h8 (by simp))]; exact hv_up_self _ _ _
    have hg3 : g10 q2 = some (.inr (3, [.int w, .int 0, .int 0, .int 0, .int 0])) := by rw [ega, hv_up_ne _ _ (hv_ne hgs h8 (by simp)), hv_up_ne _ _ (hv_ne hgs h9 (by simp))]; exact hgs
    have hfo : ∀ z, z ≠ x → z ≠ la → z ≠ q2 → g10 z = f z := fun z z1 z2 z3 => by rw [ega, hv_up_ne _ _ z1, hv_up_ne _ _ z2]; exact hfo z z1 z2 z3
    exact hv_iret hE hr hlocks hI hK (v := nI n) (⟨rfl, by simp [okLeaf, k5], hn1, q2, hfq, hg1, hg2, hg3, hfo⟩) (by decide) (by decide) d_BP_kern_38
  · skip
    have k5 := b2i_f c5
    exact hv_throw hE hl0 (cls := "java/lang/IllegalArgumentException") (text := "the width is no size") (names := NMS) (by decide) (by decide) hI hK (hv_thr tw_IAE (by decide)) (by rw [hml]; exact hl.1) d_BP_kern_8 d_BP_kern_11 d_BP_kern_12 d_BP_kern_14 d_BP_kern_17 hout (by decide) (by decide) hlocks (Or.inl ⟨rfl, by simp [okLeaf, k5], rfl⟩) (by decide) (by decide) (by decide) (by decide)
end
section
/-! ===== boxes by their numbers ===== -/
def isBx (k : Int32) (bn : Nat) : Bool := !decide (k < 0) && decide (k < nI bn)
theorem isBx_nat {k : Int32} {bn : Nat} (h : isBx k bn = true) (hb : bn ≤ 100) : k.toNatClampNeg < bn ∧ k = nI k.toNatClampNeg := by
  simp only [isBx, Bool.and_eq_true, Bool.not_eq_true', decide_eq_false_iff_not, decide_eq_true_eq] at h
  obtain ⟨j, hj, e⟩ := nI_of h.1
  subst e
  rw [nI_clamp hj]
  exact ⟨(nI_ltI hj (by omega)).mp h.2, rfl⟩

set_option maxHeartbeats 4000000 in
set_option maxRecDepth 100000 in
theorem c_BP_boxNumbered (l : Launch) (hl0 : l.stackTraces = false) (b0 : Nat) (D : va_G) (cA : Nat → ClassId) (f : hv_M) (x la ma mk n bn : Nat) (k : Int32) (gb : Nat → Option Nat) (ad : Nat → Nat) (hx0 : f x = some (.inr (0, [.ref la, .int (nI n), .ref ma, .int (nI bn), .ref mk]))) (hma : f ma = some (.inl (cA 4, 100, .inr (.inr (.inr (.inr gb)))))) (had : ∀ j, j < bn → gb j = some (ad j)) (hbn : bn ≤ 100) : hv_Met l y_BP_boxNumbered [Cond.code y_BP_boxNumbered b_BP_boxNumbered 2 (some (FieldType.object "BoxPacker$Box"))] (RM 1 1 6) b0 (Fa D cA) D CL [.ref x, .int k] f (fun v g => v = some (.ref (ad k.toNatClampNeg)) ∧ isBx k bn = true ∧ g = f) (TX1 "java/lang/IndexOutOfBoundsException" f (isBx k bn = false)) := by
  refine hv_Met.of (own := "BoxPacker") (by decide) rfl (Nat.le_of_ble_eq_true rfl) ?_
  intro p e s m below meth c hE hml hout hr hlocks hname hK hI ls hl
  have hl : lv_has ls 2 [(0, .ref x), (1, .int k)] := hl
  obtain ⟨hx, hb, hown, hts, hVK⟩ := id hE
  refine lv_iload_n hx hb d_BP_boxNumbered_0 rfl (lv_at hl 1 rfl) ?_
  refine lv_if_lt (tgt := 12) hx hb d_BP_boxNumbered_1 (by decide) (fun c1 => ?_) (fun c1 => ?_)
  · skip
    exact hv_throw hE hl0 (cls := "java/lang/IndexOutOfBoundsException") (text := "there is no such box") (names := NMS) (by decide) (by decide) hI hK (hv_thr tw_IOB (by decide)) (by rw [hml]; exact hl.1) d_BP_boxNumbered_12 d_BP_boxNumbered_15 d_BP_boxNumbered_16 d_BP_boxNumbered_18 d_BP_boxNumbered_21 hout (by decide) (by decide) hlocks (⟨rfl, rfl, by simp [isBx, c1]⟩) (by decide) (by decide) (by decide) (by decide)
  · skip
    refine lv_iload_n hx hb d_BP_boxNumbered_4 rfl (lv_at hl 1 rfl) ?_
    refine lv_aload_n hx hb d_BP_boxNumbered_5 rfl (lv_at hl 0 rfl) ?_
    refine hv_get hE k_BP hI 3 (by decide) w47 hx0 rfl d_BP_boxNumbered_6 ?_
    refine lv_icmp_lt (tgt := 22) hx hb d_BP_boxNumbered_9 (by decide) (fun c9 => ?_) (fun c9 => ?_)
    · skip
      have hk : isBx k bn = true := by simp [isBx, c1, c9]
      refine lv_aload_n hx hb d_BP_boxNumbered_22 rfl (lv_at hl 0 rfl) ?_
      refine hv_get hE k_BP hI 2 (by decide) w46 hx0 rfl d_BP_boxNumbered_23 ?_
      refine lv_iload_n hx hb d_BP_boxNumbered_26 rfl (lv_at hl 1 rfl) ?_
      refine hv_aald hE hI 4 hma rfl (pk_in k.toNatClampNeg 100 (Nat.lt_of_lt_of_le (isBx_nat hk hbn).1 hbn) (isBx_nat hk hbn).2) d_BP_boxNumbered_27 ?_
      rw [had _ (isBx_nat hk hbn).1]
      refine W.eq (g2 := F0 m 28 ls [.ref (ad k.toNatClampNeg)]) rfl ?_
      exact hv_aret hE hr (Or.inl ⟨_, rfl⟩) hlocks hI hK (v := .ref (ad k.toNatClampNeg)) (Or.inr ⟨_, rfl⟩) (⟨rfl, hk, rfl⟩) (by decide) (by decide) d_BP_boxNumbered_28
    · skip
      exact hv_throw hE hl0 (cls := "java/lang/IndexOutOfBoundsException") (text := "there is no such box") (names := NMS) (by decide) (by decide) hI hK (hv_thr tw_IOB (by decide)) (by rw [hml]; exact hl.1) d_BP_boxNumbered_12 d_BP_boxNumbered_15 d_BP_boxNumbered_16 d_BP_boxNumbered_18 d_BP_boxNumbered_21 hout (by decide) (by decide) hlocks (⟨rfl, rfl, by simp [isBx, c1, c9]⟩) (by decide) (by decide) (by decide) (by decide)

set_option maxHeartbeats 4000000 in
set_option maxRecDepth 100000 in
theorem c_BP_box (l : Launch) (hl0 : l.stackTraces = false) (b0 : Nat) (D : va_G) (cA : Nat → ClassId) (f : hv_M) (x la ma mk n bn : Nat) (k z : Int32) (gl : Nat → Option Nat) (gb : Nat → Option Nat) (ad : Nat → Nat) (ca pa : Nat) (dp al w h d ex od to ov b9 : Int32) (hx0 : f x = some (.inr (0, [.ref la, .int (nI n), .ref ma, .int (nI bn), .ref mk]))) (hla : f la = some (.inl (cA 3, 100, .inr (.inr (.inr (.inr gl)))))) (hn : n < 2 ^ 31) (hma : f ma = some (.inl (cA 4, 100, .inr (.inr (.inr (.inr gb)))))) (had : ∀ j, j < bn → gb j = some (ad j)) (hbn : bn ≤ 100) (hin : isBx k bn = true → f (ad k.toNatClampNeg) = some (.inr (1, [.int b9, .ref ca, .ref pa, .int dp, .int al, .int w, .int h, .int d, .int ex, .int od, .int to, .int ov]))) : hv_Met l y_BP_box [Cond.code y_BP_box b_BP_box 4 (some FieldType.int)] (RM 4 3 18) b0 (Fa D cA) D CL [.ref x, .int k, .int z] f (fun v g => v = some (.int (nI n)) ∧ isBx k bn = true ∧ sz z.toInt64 = true ∧ n < 100 ∧ addedI cA f g x la ma mk n bn gl (itE (.inl (-1, w, h, d, some (ad k.toNatClampNeg), z)))) (fun E g => (E = "java/lang/IndexOutOfBoundsException" ∧ isBx k bn = false ∧ g = f) ∨ (E = "java/lang/IllegalArgumentException" ∧ isBx k bn = true ∧ sz z.toInt64 = false ∧ g = f) ∨ (E = "java/lang/UnsupportedOperationException" ∧ isBx k bn = true ∧ sz z.toInt64 = true ∧ 100 ≤ n ∧ g = f)) := by
  refine hv_Met.of (own := "BoxPacker") (by decide) rfl (Nat.le_of_ble_eq_true rfl) ?_
  intro p e s m below meth c hE hml hout hr hlocks hname hK hI ls hl
  have hl : lv_has ls 4 [(0, .ref x), (1, .int k), (2, .int z)] := hl
  obtain ⟨hx, hb, hown, hts, hVK⟩ := id hE
  refine lv_aload_n hx hb d_BP_box_0 rfl (lv_at hl 0 rfl) ?_
  refine lv_iload_n hx hb d_BP_box_1 rfl (lv_at hl 1 rfl) ?_
  obtain ⟨aj, eaj⟩ : ∃ z : Nat, z = ad k.toNatClampNeg := ⟨_, rfl⟩
  refine hv_V (As := [.int k]) (rest := []) hE hml hK hI (c_BP_boxNumbered l hl0 b0 D cA f x la ma mk n bn k gb ad hx0 hma had hbn) cd_BP_boxNumbered w283 w285 ws3 hx0 rfl rfl hl.1 (Nat.le_of_ble_eq_true rfl) d_BP_box_2 ⟨by decide, by decide⟩ ⟨by decide, by decide⟩ (fun v9 g1 H locs hp hI => ?_) (fun q9 E9 ce9 g9 H locs hp hI hce hcv hcl => ?_)
  rotate_left
  · skip
    obtain ⟨hE9, hg9, hc9⟩ := hp
    rw [hE9] at hcl
    rw [hg9] at hI
    exact hv_out hout hlocks hI hK hce hcv hcl (Or.inl ⟨rfl, hc9, rfl⟩) (by decide) (by decide)
  obtain ⟨hv, hk, hg9⟩ := hp
  rw [hv, ← eaj]
  rw [hg9] at hI
  refine W.eq (g2 := F0 m 5 ls [.ref aj]) rfl ?_
  have hgj : f aj = some (.inr (1, [.int b9, .ref ca, .ref pa, .int dp, .int al, .int w, .int h, .int d, .int ex, .int od, .int to, .int ov])) := by rw [eaj]; exact hin hk
  refine lv_astore_n (lv' := [(3, .ref aj), (0, .ref x), (1, .int k), (2, .int z)]) hx hb d_BP_box_5 rfl hl (by decide) rfl (fun ls hl => ?_)
  refine lv_iload_n hx hb d_BP_box_6 rfl (lv_at hl 3 rfl) ?_
  refine lv_i2l (v := z.toInt64) hx hb d_BP_box_7 rfl ?_
  refine hv_Sp (As := [.long z.toInt64]) (rest := []) hE hml hK hI (c_BP_isSize l hl0 b0 D cA f z.toInt64) cd_BP_isSize w151 w152 rfl rfl rfl hl.1 (Nat.le_of_ble_eq_true rfl) d_BP_box_8 ⟨by decide, by decide⟩ ⟨by decide, by decide⟩ (fun H locs hI => ?_)
  refine W.eq (g2 := F0 m 11 ls [.int (b2i (sz z.toInt64))]) rfl ?_
  refine lv_if_ne (tgt := 24) hx hb d_BP_box_11 (by decide) (fun c11 => ?_) (fun c11 => ?_)
  · skip
    have k11 := b2i_t c11
    refine lv_aload_n hx hb d_BP_box_24 rfl (lv_at hl 1 rfl) ?_
    refine hv_V (As := []) (rest := []) hE hml hK hI (c_BP_refuseWhenFull l hl0 b0 D cA f x la ma mk n bn hx0 hn) cd_BP_refuseWhenFull w157 w159 ws1 hx0 rfl rfl hl.1 (Nat.le_of_ble_eq_true rfl) d_BP_box_25 ⟨by decide, by decide⟩ ⟨by decide, by decide⟩ (fun v9 g2 H locs hp hI => ?_) (fun q9 E9 ce9 g9 H locs hp hI hce hcv hcl => ?_)
    rotate_left
    · skip
      obtain ⟨hE9, hg9, hc9⟩ := hp
      rw [hE9] at hcl
      rw [hg9] at hI
      exact hv_out hout hlocks hI hK hce hcv hcl (Or.inr (Or.inr ⟨rfl, hk, k11, hc9, rfl⟩)) (by decide) (by decide)
    obtain ⟨hv, hg9, hn1⟩ := hp
    rw [hv]
    rw [hg9] at hI
    refine W.eq (g2 := F0 m 28 ls []) rfl ?_
    refine lv_aload_n hx hb d_BP_box_28 rfl (lv_at hl 1 rfl) ?_
    refine hv_new hE k_Solid hI w177 w178 w10 (fs := [.int 0, .int 0, .int 0, .int 0, .null, .int 0]) (by decide +kernel) (by decide) (by decide) d_BP_box_29 (fun q3 H hnq3 hI => ?_)
    obtain ⟨g4, eg4⟩ : ∃ z : hv_M, z = hv_up f q3 (.inr (2, [.int 0, .int 0, .int 0, .int 0, .null, .int 0])) := ⟨_, rfl⟩
    have hI : hv_I D CL b0 g4 s.heap H locs := by rw [eg4]; exact hI
    have h5 : g4 x = some (.inr (0, [.ref la, .int (nI n), .ref ma, .int (nI bn), .ref mk])) := by rw [eg4]; rw [hv_up_ne _ _ (hv_nn hx0 hnq3)]; exact hx0
    have h6 : g4 la = some (.inl (cA 3, 100, .inr (.inr (.inr (.inr gl))))) := by rw [eg4]; rw [hv_up_ne _ _ (hv_nn hla hnq3)]; exact hla
    have h7 : g4 ma = some (.inl (cA 4, 100, .inr (.inr (.inr (.inr gb))))) := by rw [eg4]; rw [hv_up_ne _ _ (hv_nn hma hnq3)]; exact hma
    have h8 : g4 aj = some (.inr (1, [.int b9, .ref ca, .ref pa, .int dp, .int al, .int w, .int h, .int d, .int ex, .int od, .int to, .int ov])) := by rw [eg4]; rw [hv_up_ne _ _ (hv_nn hgj hnq3)]; exact hgj
    have h9 : g4 q3 = some (.inr (2, [.int 0, .int 0, .int 0, .int 0, .null, .int 0])) := by rw [eg4]; exact hv_up_self _ _ _
    refine lv_dup hx hb d_BP_box_32 rfl ?_
    refine lv_iconst (v := (-1)) hx hb d_BP_box_33 (by decide) ?_
    refine lv_aload_n hx hb d_BP_box_34 rfl (lv_at hl 0 rfl) ?_
    refine hv_getN hE k_Box hI 5 (by decide) w340 h8 rfl d_BP_box_35 ?_
    refine lv_aload_n hx hb d_BP_box_38 rfl (lv_at hl 0 rfl) ?_
    refine hv_getN hE k_Box hI 6 (by decide) w342 h8 rfl d_BP_box_39 ?_
    refine lv_aload_n hx hb d_BP_box_42 rfl (lv_at hl 0 rfl) ?_
    refine hv_getN hE k_Box hI 7 (by decide) w344 h8 rfl d_BP_box_43 ?_
    refine lv_aload_n hx hb d_BP_box_46 rfl (lv_at hl 0 rfl) ?_
    refine lv_iload_n hx hb d_BP_box_47 rfl (lv_at hl 3 rfl) ?_
    have hfq : f q3 = none := hnq3
    have hfo : ∀ z, z ≠ x → z ≠ la → z ≠ q3 → g4 z = f z := fun z z1 z2 z3 => by rw [eg4, hv_up_ne _ _ z3]
    refine hv_CN (As := [.int (-1), .int w, .int h, .int d, .ref aj, .int z]) (rest := [.ref q3, .ref x]) hE hml hK hI (c_Solid_initB l hl0 b0 D cA g4 q3 (-1) w h d z aj h9) cd_Solid_init rfl w179 w180 rfl hl.1 (Nat.le_of_ble_eq_true rfl) d_BP_box_48 ⟨by decide, by decide⟩ ⟨by decide, by decide⟩ (fun v9 g10 H locs hp hI => ?_) (fun q9 E9 ce9 g9 H locs hp => hp.elim)
    obtain ⟨hv, egs⟩ := hp
    rw [hv]
    refine W.eq (g2 := F0 m 51 ls [.ref q3, .ref x]) rfl ?_
    have hgs : g10 q3 = some (.inr (2, [.int (-1), .int w, .int h, .int d, .ref aj, .int z])) := by rw [egs]; exact hv_up_self _ _ _
    have hfo : ∀ z, z ≠ x → z ≠ la → z ≠ q3 → g10 z = f z := fun z z1 z2 z3 => by rw [egs, hv_up_ne _ _ z3]; exact hfo z z1 z2 z3
    have h11 : g10 x = some (.inr (0, [.ref la, .int (nI n), .ref ma, .int (nI bn), .ref mk])) := by rw [egs, hv_up_ne _ _ (hv_ne h5 h9 (by simp))]; exact h5
    have h12 : g10 la = some (.inl (cA 3, 100, .inr (.inr (.inr (.inr gl))))) := by rw [egs, hv_up_ne _ _ (hv_ne h6 h9 (by simp))]; exact h6
    have h13 : g10 ma = some (.inl (cA 4, 100, .inr (.inr (.inr (.inr gb))))) := by rw [egs, hv_up_ne _ _ (hv_ne h7 h9 (by simp))]; exact h7
    have h14 : g10 aj = some (.inr (1, [.int b9, .ref ca, .ref pa, .int dp, .int al, .int w, .int h, .int d, .int ex, .int od, .int to, .int ov])) := by rw [egs, hv_up_ne _ _ (hv_ne h8 h9 (by simp))]; exact h8
    refine hv_V (As := [.ref q3]) (rest := []) hE hml hK hI (c_BP_appendS l hl0 b0 D cA g10 x la ma mk n bn q3 gl [.int (-1), .int w, .int h, .int d, .ref aj, .int z] h11 h12 hgs hn1) cd_BP_append w216 w218 ws2 h11 rfl rfl hl.1 (Nat.le_of_ble_eq_true rfl) d_BP_box_51 ⟨by decide, by decide⟩ ⟨by decide, by decide⟩ (fun v9 g15 H locs hp hI => ?_) (fun q9 E9 ce9 g9 H locs hp => hp.elim)
    obtain ⟨hv, ega⟩ := hp
    rw [hv]
    refine W.eq (g2 := F0 m 54 ls [.int (nI n)]) rfl ?_
    have hg1 : g15 x = some (bpE la ma mk (n + 1) bn) := by rw [ega]; exact hv_up_self _ _ _
    have hg2 : g15 la = some (.inl (cA 3, 100, .inr (.inr (.inr (.inr (va_up gl n (some q3))))))) := by rw [ega, hv_up_ne _ _ (hv_ne h12 h11 (by simp))]; exact hv_up_self _ _ _
    have hg3 : g15 q3 = some (.inr (2, [.int (-1), .int w, .int h, .int d, .ref aj, .int z])) := by rw [ega, hv_up_ne _ _ (hv_ne hgs h11 (by simp)), hv_up_ne _ _ (hv_ne hgs h12 (by simp))]; exact hgs
    have hfo : ∀ z, z ≠ x → z ≠ la → z ≠ q3 → g15 z = f z := fun z z1 z2 z3 => by rw [ega, hv_up_ne _ _ z1, hv_up_ne _ _ z2]; exact hfo z z1 z2 z3
    exact hv_iret hE hr hlocks hI hK (v := nI n) (⟨rfl, hk, k11, hn1, q3, hfq, hg1, hg2, hg3, hfo⟩) (by decide) (by decide) d_BP_box_54
  · skip
    have k11 := b2i_f c11
    exact hv_throw hE hl0 (cls := "java/lang/IllegalArgumentException") (text := "the shift is no size") (names := NMS) (by decide) (by decide) hI hK (hv_thr tw_IAE (by decide)) (by rw [hml]; exact hl.1) d_BP_box_14 d_BP_box_17 d_BP_box_18 d_BP_box_20 d_BP_box_23 hout (by decide) (by decide) hlocks (Or.inr (Or.inl ⟨rfl, hk, k11, rfl⟩)) (by decide) (by decide) (by decide) (by decide)

set_option maxHeartbeats 4000000 in
set_option maxRecDepth 100000 in
theorem c_BP_init (l : Launch) (hl0 : l.stackTraces = false) (b0 : Nat) (D : va_G) (cA : Nat → ClassId) (f : hv_M) (x : Nat) (hx0 : f x = some (.inr (0, [.null, .int 0, .null, .int 0, .null]))) : hv_Met l y_BP_init [Cond.code y_BP_init b_BP_init 1 none] (RM 3 4 6202) b0 (Fa D cA) D CL [.ref x] f (fun v g => v = none ∧ ∃ (la ma mk rw9 : Nat), g x = some (.inr (0, [.ref la, .int 0, .ref ma, .int 0, .ref mk])) ∧ g la = some (.inl (cA 3, 100, .inr (.inr (.inr (.inr (fun _ => none)))))) ∧ g ma = some (.inl (cA 4, 100, .inr (.inr (.inr (.inr (fun _ => none)))))) ∧ g mk = some (.inr (4, [.ref rw9, .int 0])) ∧ g rw9 = some (.inl (cA 1, 6000, .inr (.inl (fun _ => 0)))) ∧ ∀ z y, z ≠ x → f z = some y → g z = some y) (NX) := by
  refine hv_Met.of (own := "BoxPacker") (by decide) rfl (Nat.le_of_ble_eq_true rfl) ?_
  intro p e s m below meth c hE hml hout hr hlocks hname hK hI ls hl
  have hl : lv_has ls 1 [(0, .ref x)] := hl
  obtain ⟨hx, hb, hown, hts, hVK⟩ := id hE
  refine lv_aload_n hx hb d_BP_init_0 rfl (lv_at hl 0 rfl) ?_
  refine W.objInit hx hb hown (hts _ w21) (hts _ w22) (hts _ w23) rfl (by rw [hml]; exact hl.1) rfl d_BP_init_1 (by decide) (Nat.le_of_ble_eq_true rfl) ?_
  refine W.eq (g2 := F0 m 4 ls []) rfl ?_
  refine lv_aload_n hx hb d_BP_init_4 rfl (lv_at hl 0 rfl) ?_
  refine lv_bipush (v := 100) hx hb d_BP_init_5 (by decide) ?_
  refine hv_newQ hE hI 3 rfl w24 w25 (n := 100) (by decide) (by decide) (by decide) (by decide) (by decide) d_BP_init_7 (fun q1 H hnq1 hI => ?_)
  obtain ⟨g2, eg2⟩ : ∃ z : hv_M, z = hv_up f q1 (.inl (cA 3, 100, .inr (.inr (.inr (.inr (fun _ => none)))))) := ⟨_, rfl⟩
  have hI : hv_I D CL b0 g2 s.heap H [] := by rw [eg2]; exact hI
  have h3 : g2 x = some (.inr (0, [.null, .int 0, .null, .int 0, .null])) := by rw [eg2]; rw [hv_up_ne _ _ (hv_nn hx0 hnq1)]; exact hx0
  have h4 : g2 q1 = some (.inl (cA 3, 100, .inr (.inr (.inr (.inr (fun _ => none)))))) := by rw [eg2]; exact hv_up_self _ _ _
  refine hv_putF hE k_BP hI hname 0 (by decide) w44 h3 rfl rfl rfl rfl (Nat.le_of_ble_eq_true rfl) d_BP_init_10 (fun H locs hI => ?_)
  obtain ⟨g5, eg5⟩ : ∃ z : hv_M, z = hv_up g2 x (.inr (0, [.ref q1, .int 0, .null, .int 0, .null])) := ⟨_, rfl⟩
  have hI : hv_I D CL b0 g5 s.heap H locs := by rw [eg5]; exact hI
  have h6 : g5 x = some (.inr (0, [.ref q1, .int 0, .null, .int 0, .null])) := by rw [eg5]; exact hv_up_self _ _ _
  have h7 : g5 q1 = some (.inl (cA 3, 100, .inr (.inr (.inr (.inr (fun _ => none)))))) := by rw [eg5]; rw [hv_up_ne _ _ (hv_ne h4 h3 (by simp))]; exact h4
  refine lv_aload_n hx hb d_BP_init_13 rfl (lv_at hl 0 rfl) ?_
  refine lv_iconst (v := 0) hx hb d_BP_init_14 (by decide) ?_
  refine hv_put hE k_BP hI 1 (by decide) w45 h6 rfl rfl rfl (Nat.le_of_ble_eq_true rfl) d_BP_init_15 (fun H locs hI => ?_)
  obtain ⟨g8, eg8⟩ : ∃ z : hv_M, z = hv_up g5 x (.inr (0, [.ref q1, .int 0, .null, .int 0, .null])) := ⟨_, rfl⟩
  have hI : hv_I D CL b0 g8 s.heap H locs := by rw [eg8]; exact hI
  have h9 : g8 x = some (.inr (0, [.ref q1, .int 0, .null, .int 0, .null])) := by rw [eg8]; exact hv_up_self _ _ _
  have h10 : g8 q1 = some (.inl (cA 3, 100, .inr (.inr (.inr (.inr (fun _ => none)))))) := by rw [eg8]; rw [hv_up_ne _ _ (hv_ne h7 h6 (by simp))]; exact h7
  refine lv_aload_n hx hb d_BP_init_18 rfl (lv_at hl 0 rfl) ?_
  refine lv_bipush (v := 100) hx hb d_BP_init_19 (by decide) ?_
  refine hv_newQ hE hI 4 rfl w26 w27 (n := 100) (by decide) (by decide) (by decide) (by decide) (by decide) d_BP_init_21 (fun q11 H hnq11 hI => ?_)
  obtain ⟨g12, eg12⟩ : ∃ z : hv_M, z = hv_up g8 q11 (.inl (cA 4, 100, .inr (.inr (.inr (.inr (fun _ => none)))))) := ⟨_, rfl⟩
  have hI : hv_I D CL b0 g12 s.heap H locs := by rw [eg12]; exact hI
  have h13 : g12 x = some (.inr (0, [.ref q1, .int 0, .null, .int 0, .null])) := by rw [eg12]; rw [hv_up_ne _ _ (hv_nn h9 hnq11)]; exact h9
  have h14 : g12 q1 = some (.inl (cA 3, 100, .inr (.inr (.inr (.inr (fun _ => none)))))) := by rw [eg12]; rw [hv_up_ne _ _ (hv_nn h10 hnq11)]; exact h10
  have h15 : g12 q11 = some (.inl (cA 4, 100, .inr (.inr (.inr (.inr (fun _ => none)))))) := by rw [eg12]; exact hv_up_self _ _ _
  refine hv_putF hE k_BP hI hname 2 (by decide) w46 h13 rfl rfl rfl rfl (Nat.le_of_ble_eq_true rfl) d_BP_init_24 (fun H locs hI => ?_)
  obtain ⟨g16, eg16⟩ : ∃ z : hv_M, z = hv_up g12 x (.inr (0, [.ref q1, .int 0, .ref q11, .int 0, .null])) := ⟨_, rfl⟩
  have hI : hv_I D CL b0 g16 s.heap H locs := by rw [eg16]; exact hI
  have h17 : g16 x = some (.inr (0, [.ref q1, .int 0, .ref q11, .int 0, .null])) := by rw [eg16]; exact hv_up_self _ _ _
  have h18 : g16 q1 = some (.inl (cA 3, 100, .inr (.inr (.inr (.inr (fun _ => none)))))) := by rw [eg16]; rw [hv_up_ne _ _ (hv_ne h14 h13 (by simp))]; exact h14
  have h19 : g16 q11 = some (.inl (cA 4, 100, .inr (.inr (.inr (.inr (fun _ => none)))))) := by rw [eg16]; rw [hv_up_ne _ _ (hv_ne h15 h13 (by simp))]; exact h15
  refine lv_aload_n hx hb d_BP_init_27 rfl (lv_at hl 0 rfl) ?_
  refine lv_iconst (v := 0) hx hb d_BP_init_28 (by decide) ?_
  refine hv_put hE k_BP hI 3 (by decide) w47 h17 rfl rfl rfl (Nat.le_of_ble_eq_true rfl) d_BP_init_29 (fun H locs hI => ?_)
  obtain ⟨g20, eg20⟩ : ∃ z : hv_M, z = hv_up g16 x (.inr (0, [.ref q1, .int 0, .ref q11, .int 0, .null])) := ⟨_, rfl⟩
  have hI : hv_I D CL b0 g20 s.heap H locs := by rw [eg20]; exact hI
  have h21 : g20 x = some (.inr (0, [.ref q1, .int 0, .ref q11, .int 0, .null])) := by rw [eg20]; exact hv_up_self _ _ _
  have h22 : g20 q1 = some (.inl (cA 3, 100, .inr (.inr (.inr (.inr (fun _ => none)))))) := by rw [eg20]; rw [hv_up_ne _ _ (hv_ne h18 h17 (by simp))]; exact h18
  have h23 : g20 q11 = some (.inl (cA 4, 100, .inr (.inr (.inr (.inr (fun _ => none)))))) := by rw [eg20]; rw [hv_up_ne _ _ (hv_ne h19 h17 (by simp))]; exact h19
  refine lv_aload_n hx hb d_BP_init_32 rfl (lv_at hl 0 rfl) ?_
  refine hv_new hE k_Marks hI w28 w29 w2 (fs := [.null, .int 0]) (by decide +kernel) (by decide) (by decide) d_BP_init_33 (fun q24 H hnq24 hI => ?_)
  obtain ⟨g25, eg25⟩ : ∃ z : hv_M, z = hv_up g20 q24 (.inr (4, [.null, .int 0])) := ⟨_, rfl⟩
  have hI : hv_I D CL b0 g25 s.heap H locs := by rw [eg25]; exact hI
  have h26 : g25 x = some (.inr (0, [.ref q1, .int 0, .ref q11, .int 0, .null])) := by rw [eg25]; rw [hv_up_ne _ _ (hv_nn h21 hnq24)]; exact h21
  have h27 : g25 q1 = some (.inl (cA 3, 100, .inr (.inr (.inr (.inr (fun _ => none)))))) := by rw [eg25]; rw [hv_up_ne _ _ (hv_nn h22 hnq24)]; exact h22
  have h28 : g25 q11 = some (.inl (cA 4, 100, .inr (.inr (.inr (.inr (fun _ => none)))))) := by rw [eg25]; rw [hv_up_ne _ _ (hv_nn h23 hnq24)]; exact h23
  have h29 : g25 q24 = some (.inr (4, [.null, .int 0])) := by rw [eg25]; exact hv_up_self _ _ _
  refine lv_dup hx hb d_BP_init_36 rfl ?_
  refine hv_CN (As := []) (rest := [.ref q24, .ref x]) hE hml hK hI (c_Marks_init l hl0 b0 D cA g25 q24 h29) cd_Marks_init rfl w30 w31 rfl hl.1 (Nat.le_of_ble_eq_true rfl) d_BP_init_37 ⟨by decide, by decide⟩ ⟨by decide, by decide⟩ (fun v9 g30 H locs hp hI => ?_) (fun q9 E9 ce9 g9 H locs hp => hp.elim)
  obtain ⟨hv, rw9, hnr, egm⟩ := hp
  rw [hv]
  refine W.eq (g2 := F0 m 40 ls [.ref q24, .ref x]) rfl ?_
  have hgk : g30 q24 = some (.inr (4, [.ref rw9, .int 0])) := by rw [egm]; exact hv_up_self _ _ _
  have hgr : g30 rw9 = some (.inl (cA 1, 6000, .inr (.inl (fun _ => 0)))) := by rw [egm, hv_up_ne _ _ (Ne.symm (hv_nn h29 hnr))]; exact hv_up_self _ _ _
  have h31 : g30 x = some (.inr (0, [.ref q1, .int 0, .ref q11, .int 0, .null])) := by rw [egm, hv_up_ne _ _ (hv_ne h26 h29 (by simp)), hv_up_ne _ _ (hv_nn h26 hnr)]; exact h26
  have h32 : g30 q1 = some (.inl (cA 3, 100, .inr (.inr (.inr (.inr (fun _ => none)))))) := by rw [egm, hv_up_ne _ _ (hv_ne h27 h29 (by simp)), hv_up_ne _ _ (hv_nn h27 hnr)]; exact h27
  have h33 : g30 q11 = some (.inl (cA 4, 100, .inr (.inr (.inr (.inr (fun _ => none)))))) := by rw [egm, hv_up_ne _ _ (hv_ne h28 h29 (by simp)), hv_up_ne _ _ (hv_nn h28 hnr)]; exact h28
  refine hv_putF hE k_BP hI hname 4 (by decide) w48 h31 rfl rfl rfl rfl (Nat.le_of_ble_eq_true rfl) d_BP_init_40 (fun H locs hI => ?_)
  obtain ⟨g34, eg34⟩ : ∃ z : hv_M, z = hv_up g30 x (.inr (0, [.ref q1, .int 0, .ref q11, .int 0, .ref q24])) := ⟨_, rfl⟩
  have hI : hv_I D CL b0 g34 s.heap H locs := by rw [eg34]; exact hI
  have h35 : g34 x = some (.inr (0, [.ref q1, .int 0, .ref q11, .int 0, .ref q24])) := by rw [eg34]; exact hv_up_self _ _ _
  have h36 : g34 q1 = some (.inl (cA 3, 100, .inr (.inr (.inr (.inr (fun _ => none)))))) := by rw [eg34]; rw [hv_up_ne _ _ (hv_ne h32 h31 (by simp))]; exact h32
  have h37 : g34 q11 = some (.inl (cA 4, 100, .inr (.inr (.inr (.inr (fun _ => none)))))) := by rw [eg34]; rw [hv_up_ne _ _ (hv_ne h33 h31 (by simp))]; exact h33
  have h38 : g34 q24 = some (.inr (4, [.ref rw9, .int 0])) := by rw [eg34]; rw [hv_up_ne _ _ (hv_ne hgk h31 (by simp))]; exact hgk
  have h39 : g34 rw9 = some (.inl (cA 1, 6000, .inr (.inl (fun _ => 0)))) := by rw [eg34]; rw [hv_up_ne _ _ (hv_ne hgr h31 (by simp))]; exact hgr
  have keep9 : ∀ z y, z ≠ x → f z = some y → f z = some y := fun _ _ _ h => h
  have keep9 : ∀ z y, z ≠ x → f z = some y → g2 z = some y := fun z y z1 hz => by rw [eg2, hv_up_ne _ _ (hv_nn (keep9 z y z1 hz) hnq1)]; exact keep9 z y z1 hz
  have keep9 : ∀ z y, z ≠ x → f z = some y → g5 z = some y := fun z y z1 hz => by rw [eg5, hv_up_ne _ _ z1]; exact keep9 z y z1 hz
  have keep9 : ∀ z y, z ≠ x → f z = some y → g8 z = some y := fun z y z1 hz => by rw [eg8, hv_up_ne _ _ z1]; exact keep9 z y z1 hz
  have keep9 : ∀ z y, z ≠ x → f z = some y → g12 z = some y := fun z y z1 hz => by rw [eg12, hv_up_ne _ _ (hv_nn (keep9 z y z1 hz) hnq11)]; exact keep9 z y z1 hz
  have keep9 : ∀ z y, z ≠ x → f z = some y → g16 z = some y := fun z y z1 hz => by rw [eg16, hv_up_ne _ _ z1]; exact keep9 z y z1 hz
  have keep9 : ∀ z y, z ≠ x → f z = some y → g20 z = some y := fun z y z1 hz => by rw [eg20, hv_up_ne _ _ z1]; exact keep9 z y z1 hz
  have keepq := keep9
  have keep9 : ∀ z y, z ≠ x → f z = some y → g25 z = some y := fun z y z1 hz => by rw [eg25, hv_up_ne _ _ (hv_nn (keep9 z y z1 hz) hnq24)]; exact keep9 z y z1 hz
  have keep9 : ∀ z y, z ≠ x → f z = some y → g30 z = some y := fun z y z1 hz => by rw [egm, hv_up_ne _ _ (fun q9 => by have h9 := keepq z y z1 hz; rw [q9] at h9; rw [hnq24] at h9; cases h9), hv_up_ne _ _ (hv_nn (keep9 z y z1 hz) hnr)]; exact keep9 z y z1 hz
  have keep9 : ∀ z y, z ≠ x → f z = some y → g34 z = some y := fun z y z1 hz => by rw [eg34, hv_up_ne _ _ z1]; exact keep9 z y z1 hz
  exact hv_vret hE hr hlocks hI hK (⟨rfl, q1, q11, q24, rw9, h35, h36, h37, h38, h39, keep9⟩) (by decide) (by decide) d_BP_init_43
end
section
/-! ===== questions ===== -/
theorem sw_nat {x : Int32} {n : Nat} (h : ¬ (x.toInt < 0 ∨ (n : Int) < x.toInt)) : ∃ j, j ≤ n ∧ x = nI j := by
  have h0 : ¬ x < 0 := fun q => h (Or.inl (by have := Int32.lt_iff_toInt_lt.mp q; simpa using this))
  obtain ⟨j, hj, e⟩ := nI_of h0
  refine ⟨j, ?_, e⟩
  have h1 : x.toInt = j := by rw [e, nI, Int32.toInt_ofNat_of_lt hj]
  omega
theorem sw_out {x : Int32} {n : Nat} (hn : n < 2 ^ 31) (h : x.toInt < 0 ∨ (n : Int) < x.toInt) : isBx x (n + 1) = false := by
  cases hb : isBx x (n + 1) with
  | false => rfl
  | true =>
    simp only [isBx, Bool.and_eq_true, Bool.not_eq_true', decide_eq_false_iff_not, decide_eq_true_eq] at hb
    obtain ⟨j, hj, e⟩ := nI_of hb.1
    have h1 : x.toInt = j := by rw [e, nI, Int32.toInt_ofNat_of_lt hj]
    have h2 := hb.2
    by_cases hn1 : n + 1 < 2 ^ 31
    · rw [e] at h2
      have := (nI_ltI hj hn1).mp h2
      omega
    · omega
/-- of: the eleven numbers -/
def ofV (w h d ex od to ov dp al : Int32) (cn j : Nat) : Int32 := [w, h, d, ex, od, to, badF ex od to ov, ov, dp, nI cn, al].getD j 0

set_option maxHeartbeats 4000000 in
set_option maxRecDepth 100000 in
theorem c_BP_of (l : Launch) (hl0 : l.stackTraces = false) (b0 : Nat) (D : va_G) (cA : Nat → ClassId) (f : hv_M) (x la ma mk n bn : Nat) (k wh : Int32) (cn : Nat) (gc : Nat → Option Nat) (gb : Nat → Option Nat) (ad : Nat → Nat) (ca pa : Nat) (b9 dp al w h d ex od to ov : Int32) (hx0 : f x = some (.inr (0, [.ref la, .int (nI n), .ref ma, .int (nI bn), .ref mk]))) (hma : f ma = some (.inl (cA 4, 100, .inr (.inr (.inr (.inr gb)))))) (had : ∀ j, j < bn → gb j = some (ad j)) (hbn : bn ≤ 100) (hin : isBx k bn = true → f (ad k.toNatClampNeg) = some (.inr (1, [.int b9, .ref ca, .ref pa, .int dp, .int al, .int w, .int h, .int d, .int ex, .int od, .int to, .int ov]))) (hic : isBx k bn = true → f ca = some (.inl (cA 3, cn, .inr (.inr (.inr (.inr gc)))))) : hv_Met l y_BP_of [Cond.code y_BP_of b_BP_of 4 (some FieldType.int)] (RM 3 2 12) b0 (Fa D cA) D CL [.ref x, .int k, .int wh] f (fun v g => g = f ∧ isBx k bn = true ∧ ∃ j, j < 11 ∧ wh = nI j ∧ v = some (.int (ofV w h d ex od to ov dp al cn j))) (fun E g => E = "java/lang/IndexOutOfBoundsException" ∧ g = f ∧ (isBx k bn = false ∨ (isBx k bn = true ∧ isBx wh 11 = false))) := by
  refine hv_Met.of (own := "BoxPacker") (by decide) rfl (Nat.le_of_ble_eq_true rfl) ?_
  intro p e s m below meth c hE hml hout hr hlocks hname hK hI ls hl
  have hl : lv_has ls 4 [(0, .ref x), (1, .int k), (2, .int wh)] := hl
  obtain ⟨hx, hb, hown, hts, hVK⟩ := id hE
  refine lv_aload_n hx hb d_BP_of_0 rfl (lv_at hl 0 rfl) ?_
  refine lv_iload_n hx hb d_BP_of_1 rfl (lv_at hl 1 rfl) ?_
  obtain ⟨aj, eaj⟩ : ∃ z : Nat, z = ad k.toNatClampNeg := ⟨_, rfl⟩
  refine hv_V (As := [.int k]) (rest := []) hE hml hK hI (c_BP_boxNumbered l hl0 b0 D cA f x la ma mk n bn k gb ad hx0 hma had hbn) cd_BP_boxNumbered w283 w285 ws3 hx0 rfl rfl hl.1 (Nat.le_of_ble_eq_true rfl) d_BP_of_2 ⟨by decide, by decide⟩ ⟨by decide, by decide⟩ (fun v9 g1 H locs hp hI => ?_) (fun q9 E9 ce9 g9 H locs hp hI hce hcv hcl => ?_)
  rotate_left
  · skip
    obtain ⟨hE9, hg9, hc9⟩ := hp
    rw [hE9] at hcl
    rw [hg9] at hI
    exact hv_out hout hlocks hI hK hce hcv hcl (⟨rfl, rfl, Or.inl hc9⟩) (by decide) (by decide)
  obtain ⟨hv, hk, hg9⟩ := hp
  rw [hv, ← eaj]
  rw [hg9] at hI
  refine W.eq (g2 := F0 m 5 ls [.ref aj]) rfl ?_
  have hgj : f aj = some (.inr (1, [.int b9, .ref ca, .ref pa, .int dp, .int al, .int w, .int h, .int d, .int ex, .int od, .int to, .int ov])) := by rw [eaj]; exact hin hk
  have hgca := hic hk
  refine lv_astore_n (lv' := [(3, .ref aj), (0, .ref x), (1, .int k), (2, .int wh)]) hx hb d_BP_of_5 rfl hl (by decide) rfl (fun ls hl => ?_)
  refine lv_iload_n hx hb d_BP_of_6 rfl (lv_at hl 3 rfl) ?_
  by_cases hsw : (wh).toInt < 0 ∨ 10 < (wh).toInt
  · refine lv_tableOut (tgt := 120) hx hb d_BP_of_7 hsw (by decide) ?_
    exact hv_throw hE hl0 (cls := "java/lang/IndexOutOfBoundsException") (text := "what is not 0 .. 10") (names := NMS) (by decide) (by decide) hI hK (hv_thr tw_IOB (by decide)) (by rw [hml]; exact hl.1) d_BP_of_120 d_BP_of_123 d_BP_of_124 d_BP_of_126 d_BP_of_129 hout (by decide) (by decide) hlocks (⟨rfl, rfl, Or.inr ⟨hk, sw_out (n := 10) (by decide) hsw⟩⟩) (by decide) (by decide) (by decide) (by decide)
  obtain ⟨j9, hj9, ej9⟩ := sw_nat (n := 10) hsw
  rcases (show j9 = 0 ∨ j9 = 1 ∨ j9 = 2 ∨ j9 = 3 ∨ j9 = 4 ∨ j9 = 5 ∨ j9 = 6 ∨ j9 = 7 ∨ j9 = 8 ∨ j9 = 9 ∨ j9 = 10 by omega) with e9 | e9 | e9 | e9 | e9 | e9 | e9 | e9 | e9 | e9 | e9
  · rw [e9] at ej9
    refine lv_tableIn (tgt := 64) hx hb d_BP_of_7 (by rw [ej9]; decide) (by rw [ej9]; decide) (by rw [ej9]; rfl) (by decide) ?_
    refine lv_aload_n hx hb d_BP_of_64 rfl (lv_at hl 0 rfl) ?_
    refine hv_getN hE k_Box hI 5 (by decide) w340 hgj rfl d_BP_of_65 ?_
    exact hv_iret hE hr hlocks hI hK (v := w) (⟨rfl, hk, 0, by decide, ej9, rfl⟩) (by decide) (by decide) d_BP_of_68
  · rw [e9] at ej9
    refine lv_tableIn (tgt := 69) hx hb d_BP_of_7 (by rw [ej9]; decide) (by rw [ej9]; decide) (by rw [ej9]; rfl) (by decide) ?_
    refine lv_aload_n hx hb d_BP_of_69 rfl (lv_at hl 0 rfl) ?_
    refine hv_getN hE k_Box hI 6 (by decide) w342 hgj rfl d_BP_of_70 ?_
    exact hv_iret hE hr hlocks hI hK (v := h) (⟨rfl, hk, 1, by decide, ej9, rfl⟩) (by decide) (by decide) d_BP_of_73
  · rw [e9] at ej9
    refine lv_tableIn (tgt := 74) hx hb d_BP_of_7 (by rw [ej9]; decide) (by rw [ej9]; decide) (by rw [ej9]; rfl) (by decide) ?_
    refine lv_aload_n hx hb d_BP_of_74 rfl (lv_at hl 0 rfl) ?_
    refine hv_getN hE k_Box hI 7 (by decide) w344 hgj rfl d_BP_of_75 ?_
    exact hv_iret hE hr hlocks hI hK (v := d) (⟨rfl, hk, 2, by decide, ej9, rfl⟩) (by decide) (by decide) d_BP_of_78
  · rw [e9] at ej9
    refine lv_tableIn (tgt := 79) hx hb d_BP_of_7 (by rw [ej9]; decide) (by rw [ej9]; decide) (by rw [ej9]; rfl) (by decide) ?_
    refine lv_aload_n hx hb d_BP_of_79 rfl (lv_at hl 0 rfl) ?_
    refine hv_getN hE k_Box hI 8 (by decide) w346 hgj rfl d_BP_of_80 ?_
    exact hv_iret hE hr hlocks hI hK (v := ex) (⟨rfl, hk, 3, by decide, ej9, rfl⟩) (by decide) (by decide) d_BP_of_83
  · rw [e9] at ej9
    refine lv_tableIn (tgt := 84) hx hb d_BP_of_7 (by rw [ej9]; decide) (by rw [ej9]; decide) (by rw [ej9]; rfl) (by decide) ?_
    refine lv_aload_n hx hb d_BP_of_84 rfl (lv_at hl 0 rfl) ?_
    refine hv_getN hE k_Box hI 9 (by decide) w348 hgj rfl d_BP_of_85 ?_
    exact hv_iret hE hr hlocks hI hK (v := od) (⟨rfl, hk, 4, by decide, ej9, rfl⟩) (by decide) (by decide) d_BP_of_88
  · rw [e9] at ej9
    refine lv_tableIn (tgt := 89) hx hb d_BP_of_7 (by rw [ej9]; decide) (by rw [ej9]; decide) (by rw [ej9]; rfl) (by decide) ?_
    refine lv_aload_n hx hb d_BP_of_89 rfl (lv_at hl 0 rfl) ?_
    refine hv_getN hE k_Box hI 10 (by decide) w350 hgj rfl d_BP_of_90 ?_
    exact hv_iret hE hr hlocks hI hK (v := to) (⟨rfl, hk, 5, by decide, ej9, rfl⟩) (by decide) (by decide) d_BP_of_93
  · rw [e9] at ej9
    refine lv_tableIn (tgt := 94) hx hb d_BP_of_7 (by rw [ej9]; decide) (by rw [ej9]; decide) (by rw [ej9]; rfl) (by decide) ?_
    refine lv_aload_n hx hb d_BP_of_94 rfl (lv_at hl 0 rfl) ?_
    refine hv_VNp (As := []) (rest := []) hE hml hK hI (c_Box_badness l hl0 b0 D cA f aj ca pa b9 dp al w h d ex od to ov hgj) cd_Box_badness w453 w455 ws13 hgj rfl rfl rfl rfl hl.1 (Nat.le_of_ble_eq_true rfl) d_BP_of_95 ⟨by decide, by decide⟩ ⟨by decide, by decide⟩ (fun H locs hI => ?_)
    refine W.eq (g2 := F0 m 98 ls [.int (badF ex od to ov)]) rfl ?_
    exact hv_iret hE hr hlocks hI hK (v := badF ex od to ov) (⟨rfl, hk, 6, by decide, ej9, rfl⟩) (by decide) (by decide) d_BP_of_98
  · rw [e9] at ej9
    refine lv_tableIn (tgt := 99) hx hb d_BP_of_7 (by rw [ej9]; decide) (by rw [ej9]; decide) (by rw [ej9]; rfl) (by decide) ?_
    refine lv_aload_n hx hb d_BP_of_99 rfl (lv_at hl 0 rfl) ?_
    refine hv_getN hE k_Box hI 11 (by decide) w352 hgj rfl d_BP_of_100 ?_
    exact hv_iret hE hr hlocks hI hK (v := ov) (⟨rfl, hk, 7, by decide, ej9, rfl⟩) (by decide) (by decide) d_BP_of_103
  · rw [e9] at ej9
    refine lv_tableIn (tgt := 104) hx hb d_BP_of_7 (by rw [ej9]; decide) (by rw [ej9]; decide) (by rw [ej9]; rfl) (by decide) ?_
    refine lv_aload_n hx hb d_BP_of_104 rfl (lv_at hl 0 rfl) ?_
    refine hv_getN hE k_Box hI 3 (by decide) w336 hgj rfl d_BP_of_105 ?_
    exact hv_iret hE hr hlocks hI hK (v := dp) (⟨rfl, hk, 8, by decide, ej9, rfl⟩) (by decide) (by decide) d_BP_of_108
  · rw [e9] at ej9
    refine lv_tableIn (tgt := 109) hx hb d_BP_of_7 (by rw [ej9]; decide) (by rw [ej9]; decide) (by rw [ej9]; rfl) (by decide) ?_
    refine lv_aload_n hx hb d_BP_of_109 rfl (lv_at hl 0 rfl) ?_
    refine hv_getN hE k_Box hI 1 (by decide) w332 hgj rfl d_BP_of_110 ?_
    refine hv_alen hE hI 3 hgca rfl (z := nI cn) rfl d_BP_of_113 ?_
    exact hv_iret hE hr hlocks hI hK (v := nI cn) (⟨rfl, hk, 9, by decide, ej9, rfl⟩) (by decide) (by decide) d_BP_of_114
  · rw [e9] at ej9
    refine lv_tableIn (tgt := 115) hx hb d_BP_of_7 (by rw [ej9]; decide) (by rw [ej9]; decide) (by rw [ej9]; rfl) (by decide) ?_
    refine lv_aload_n hx hb d_BP_of_115 rfl (lv_at hl 0 rfl) ?_
    refine hv_getN hE k_Box hI 4 (by decide) w338 hgj rfl d_BP_of_116 ?_
    exact hv_iret hE hr hlocks hI hK (v := al) (⟨rfl, hk, 10, by decide, ej9, rfl⟩) (by decide) (by decide) d_BP_of_119

set_option maxHeartbeats 4000000 in
set_option maxRecDepth 100000 in
theorem c_BP_place (l : Launch) (hl0 : l.stackTraces = false) (b0 : Nat) (D : va_G) (cA : Nat → ClassId) (f : hv_M) (x la ma mk n bn : Nat) (k i : Int32) (cn : Nat) (gp : Nat → Int32) (gb : Nat → Option Nat) (ad : Nat → Nat) (ca pa : Nat) (b9 dp al w h d ex od to ov : Int32) (hx0 : f x = some (.inr (0, [.ref la, .int (nI n), .ref ma, .int (nI bn), .ref mk]))) (hma : f ma = some (.inl (cA 4, 100, .inr (.inr (.inr (.inr gb)))))) (had : ∀ j, j < bn → gb j = some (ad j)) (hbn : bn ≤ 100) (hin : isBx k bn = true → f (ad k.toNatClampNeg) = some (.inr (1, [.int b9, .ref ca, .ref pa, .int dp, .int al, .int w, .int h, .int d, .int ex, .int od, .int to, .int ov]))) (hip : isBx k bn = true → f pa = some (.inl (cA 0, cn, .inl gp))) (hcn : cn ≤ 100) : hv_Met l y_BP_place [Cond.code y_BP_place b_BP_place 4 (some FieldType.int)] (RM 3 2 12) b0 (Fa D cA) D CL [.ref x, .int k, .int i] f (fun v g => g = f ∧ isBx k bn = true ∧ isBx i cn = true ∧ v = some (.int (gp i.toNatClampNeg))) (fun E g => E = "java/lang/IndexOutOfBoundsException" ∧ g = f ∧ (isBx k bn = false ∨ (isBx k bn = true ∧ isBx i cn = false))) := by
  refine hv_Met.of (own := "BoxPacker") (by decide) rfl (Nat.le_of_ble_eq_true rfl) ?_
  intro p e s m below meth c hE hml hout hr hlocks hname hK hI ls hl
  have hl : lv_has ls 4 [(0, .ref x), (1, .int k), (2, .int i)] := hl
  obtain ⟨hx, hb, hown, hts, hVK⟩ := id hE
  refine lv_aload_n hx hb d_BP_place_0 rfl (lv_at hl 0 rfl) ?_
  refine lv_iload_n hx hb d_BP_place_1 rfl (lv_at hl 1 rfl) ?_
  obtain ⟨aj, eaj⟩ : ∃ z : Nat, z = ad k.toNatClampNeg := ⟨_, rfl⟩
  refine hv_V (As := [.int k]) (rest := []) hE hml hK hI (c_BP_boxNumbered l hl0 b0 D cA f x la ma mk n bn k gb ad hx0 hma had hbn) cd_BP_boxNumbered w283 w285 ws3 hx0 rfl rfl hl.1 (Nat.le_of_ble_eq_true rfl) d_BP_place_2 ⟨by decide, by decide⟩ ⟨by decide, by decide⟩ (fun v9 g1 H locs hp hI => ?_) (fun q9 E9 ce9 g9 H locs hp hI hce hcv hcl => ?_)
  rotate_left
  · skip
    obtain ⟨hE9, hg9, hc9⟩ := hp
    rw [hE9] at hcl
    rw [hg9] at hI
    exact hv_out hout hlocks hI hK hce hcv hcl (⟨rfl, rfl, Or.inl hc9⟩) (by decide) (by decide)
  obtain ⟨hv, hk, hg9⟩ := hp
  rw [hv, ← eaj]
  rw [hg9] at hI
  refine W.eq (g2 := F0 m 5 ls [.ref aj]) rfl ?_
  have hgj : f aj = some (.inr (1, [.int b9, .ref ca, .ref pa, .int dp, .int al, .int w, .int h, .int d, .int ex, .int od, .int to, .int ov])) := by rw [eaj]; exact hin hk
  have hgpa := hip hk
  refine lv_astore_n (lv' := [(3, .ref aj), (0, .ref x), (1, .int k), (2, .int i)]) hx hb d_BP_place_5 rfl hl (by decide) rfl (fun ls hl => ?_)
  refine lv_iload_n hx hb d_BP_place_6 rfl (lv_at hl 3 rfl) ?_
  refine lv_if_lt (tgt := 19) hx hb d_BP_place_7 (by decide) (fun c7 => ?_) (fun c7 => ?_)
  · skip
    exact hv_throw hE hl0 (cls := "java/lang/IndexOutOfBoundsException") (text := "there is no such item") (names := NMS) (by decide) (by decide) hI hK (hv_thr tw_IOB (by decide)) (by rw [hml]; exact hl.1) d_BP_place_19 d_BP_place_22 d_BP_place_23 d_BP_place_25 d_BP_place_28 hout (by decide) (by decide) hlocks (⟨rfl, rfl, Or.inr ⟨hk, by simp [isBx, c7]⟩⟩) (by decide) (by decide) (by decide) (by decide)
  · skip
    refine lv_iload_n hx hb d_BP_place_10 rfl (lv_at hl 3 rfl) ?_
    refine lv_aload_n hx hb d_BP_place_11 rfl (lv_at hl 0 rfl) ?_
    refine hv_getN hE k_Box hI 2 (by decide) w334 hgj rfl d_BP_place_12 ?_
    refine hv_alen hE hI 0 hgpa rfl (z := nI cn) rfl d_BP_place_15 ?_
    refine lv_icmp_lt (tgt := 29) hx hb d_BP_place_16 (by decide) (fun c16 => ?_) (fun c16 => ?_)
    · skip
      have hi9 : isBx i cn = true := by simp [isBx, c7, c16]
      refine lv_aload_n hx hb d_BP_place_29 rfl (lv_at hl 0 rfl) ?_
      refine hv_getN hE k_Box hI 2 (by decide) w334 hgj rfl d_BP_place_30 ?_
      refine lv_iload_n hx hb d_BP_place_33 rfl (lv_at hl 3 rfl) ?_
      refine hv_iald hE hI 0 hgpa rfl (pk_in i.toNatClampNeg cn (isBx_nat hi9 hcn).1 (isBx_nat hi9 hcn).2) d_BP_place_34 ?_
      exact hv_iret hE hr hlocks hI hK (v := gp (i).toNatClampNeg) (⟨rfl, hk, hi9, rfl⟩) (by decide) (by decide) d_BP_place_35
    · skip
      exact hv_throw hE hl0 (cls := "java/lang/IndexOutOfBoundsException") (text := "there is no such item") (names := NMS) (by decide) (by decide) hI hK (hv_thr tw_IOB (by decide)) (by rw [hml]; exact hl.1) d_BP_place_19 d_BP_place_22 d_BP_place_23 d_BP_place_25 d_BP_place_28 hout (by decide) (by decide) hlocks (⟨rfl, rfl, Or.inr ⟨hk, by simp [isBx, c7, c16]⟩⟩) (by decide) (by decide) (by decide) (by decide)

theorem mk_ix {i wh : Int32} {md : Nat} (hi : isBx i md = true) (hw : isBx wh 6 = true) (hm : md ≤ 1000) : i * 6 + wh = nI (6 * i.toNatClampNeg + wh.toNatClampNeg) := by
  simp only [isBx, Bool.and_eq_true, Bool.not_eq_true', decide_eq_false_iff_not, decide_eq_true_eq] at hi hw
  obtain ⟨j, hj, e⟩ := nI_of hi.1
  obtain ⟨k, hk, e2⟩ := nI_of hw.1
  subst e e2
  rw [nI_clamp hj, nI_clamp hk]
  have h1 := (nI_ltI hj (by omega)).mp hi.2
  have h2 := (nI_ltI (b := 6) hk (by omega)).mp hw.2
  rw [show (6 : Int32) = nI 6 from rfl]
  simp only [nI]
  rw [← Int32.ofNat_mul, ← Int32.ofNat_add, Nat.mul_comm]
theorem mk_lt {i wh : Int32} {md : Nat} (hi : isBx i md = true) (hw : isBx wh 6 = true) (hm : md ≤ 1000) : 6 * i.toNatClampNeg + wh.toNatClampNeg < 6000 := by
  simp only [isBx, Bool.and_eq_true, Bool.not_eq_true', decide_eq_false_iff_not, decide_eq_true_eq] at hi hw
  obtain ⟨j, hj, e⟩ := nI_of hi.1
  obtain ⟨k, hk, e2⟩ := nI_of hw.1
  subst e e2
  rw [nI_clamp hj, nI_clamp hk]
  have h1 := (nI_ltI hj (by omega)).mp hi.2
  have h2 := (nI_ltI (b := 6) hk (by omega)).mp hw.2
  omega

set_option maxHeartbeats 4000000 in
set_option maxRecDepth 100000 in
theorem c_BP_mark (l : Launch) (hl0 : l.stackTraces = false) (b0 : Nat) (D : va_G) (cA : Nat → ClassId) (f : hv_M) (x la ma mk n bn : Nat) (rw9 md : Nat) (i wh : Int32) (row : Nat → Int64) (hx0 : f x = some (.inr (0, [.ref la, .int (nI n), .ref ma, .int (nI bn), .ref mk]))) (hmk : f mk = some (.inr (4, [.ref rw9, .int (nI md)]))) (hrw : f rw9 = some (.inl (cA 1, 6000, .inr (.inl row)))) (hmd : md ≤ 1000) : hv_Met l y_BP_mark [Cond.code y_BP_mark b_BP_mark 3 (some FieldType.long)] (RM 1 1 6) b0 (Fa D cA) D CL [.ref x, .int i, .int wh] f (fun v g => g = f ∧ isBx i md = true ∧ isBx wh 6 = true ∧ v = some (.long (row (6 * i.toNatClampNeg + wh.toNatClampNeg)))) (fun E g => E = "java/lang/IndexOutOfBoundsException" ∧ g = f ∧ (isBx i md = false ∨ (isBx i md = true ∧ isBx wh 6 = false))) := by
  refine hv_Met.of (own := "BoxPacker") (by decide) rfl (Nat.le_of_ble_eq_true rfl) ?_
  intro p e s m below meth c hE hml hout hr hlocks hname hK hI ls hl
  have hl : lv_has ls 3 [(0, .ref x), (1, .int i), (2, .int wh)] := hl
  obtain ⟨hx, hb, hown, hts, hVK⟩ := id hE
  refine lv_iload_n hx hb d_BP_mark_0 rfl (lv_at hl 1 rfl) ?_
  refine lv_if_lt (tgt := 15) hx hb d_BP_mark_1 (by decide) (fun c1 => ?_) (fun c1 => ?_)
  · skip
    exact hv_throw hE hl0 (cls := "java/lang/IndexOutOfBoundsException") (text := "there is no such mark") (names := NMS) (by decide) (by decide) hI hK (hv_thr tw_IOB (by decide)) (by rw [hml]; exact hl.1) d_BP_mark_15 d_BP_mark_18 d_BP_mark_19 d_BP_mark_21 d_BP_mark_24 hout (by decide) (by decide) hlocks (⟨rfl, rfl, Or.inl (by simp [isBx, c1])⟩) (by decide) (by decide) (by decide) (by decide)
  · skip
    refine lv_iload_n hx hb d_BP_mark_4 rfl (lv_at hl 1 rfl) ?_
    refine lv_aload_n hx hb d_BP_mark_5 rfl (lv_at hl 0 rfl) ?_
    refine hv_get hE k_BP hI 4 (by decide) w48 hx0 rfl d_BP_mark_6 ?_
    refine hv_getN hE k_Marks hI 1 (by decide) w37 hmk rfl d_BP_mark_9 ?_
    refine lv_icmp_lt (tgt := 25) hx hb d_BP_mark_12 (by decide) (fun c12 => ?_) (fun c12 => ?_)
    · skip
      have hi9 : isBx i md = true := by simp [isBx, c1, c12]
      refine lv_iload_n hx hb d_BP_mark_25 rfl (lv_at hl 2 rfl) ?_
      refine lv_if_lt (tgt := 35) hx hb d_BP_mark_26 (by decide) (fun c26 => ?_) (fun c26 => ?_)
      · skip
        exact hv_throw hE hl0 (cls := "java/lang/IndexOutOfBoundsException") (text := "what is not 0 .. 5") (names := NMS) (by decide) (by decide) hI hK (hv_thr tw_IOB (by decide)) (by rw [hml]; exact hl.1) d_BP_mark_35 d_BP_mark_38 d_BP_mark_39 d_BP_mark_41 d_BP_mark_44 hout (by decide) (by decide) hlocks (⟨rfl, rfl, Or.inr ⟨hi9, by simp [isBx, c26]⟩⟩) (by decide) (by decide) (by decide) (by decide)
      · skip
        refine lv_iload_n hx hb d_BP_mark_29 rfl (lv_at hl 2 rfl) ?_
        refine lv_bipush (v := 6) hx hb d_BP_mark_30 (by decide) ?_
        refine lv_icmp_lt (tgt := 45) hx hb d_BP_mark_32 (by decide) (fun c32 => ?_) (fun c32 => ?_)
        · skip
          have hw9 : isBx wh 6 = true := by simp [isBx, c26, show wh < nI 6 from c32]
          refine lv_aload_n hx hb d_BP_mark_45 rfl (lv_at hl 0 rfl) ?_
          refine hv_get hE k_BP hI 4 (by decide) w48 hx0 rfl d_BP_mark_46 ?_
          refine hv_getN hE k_Marks hI 0 (by decide) w35 hmk rfl d_BP_mark_49 ?_
          refine lv_iload_n hx hb d_BP_mark_52 rfl (lv_at hl 1 rfl) ?_
          refine lv_bipush (v := 6) hx hb d_BP_mark_53 (by decide) ?_
          refine lv_imul hx hb d_BP_mark_55 ?_
          refine lv_iload_n hx hb d_BP_mark_56 rfl (lv_at hl 2 rfl) ?_
          refine lv_iadd hx hb d_BP_mark_57 ?_
          refine hv_lald hE hI 1 hrw rfl (by rw [mk_ix hi9 hw9 hmd]; exact pk_in _ 6000 (mk_lt hi9 hw9 hmd) rfl (by omega)) d_BP_mark_58 ?_
          rw [mk_ix hi9 hw9 hmd, nI_cl (Nat.lt_trans (mk_lt hi9 hw9 hmd) (by decide))]
          exact hv_lret hE hr hlocks hI hK (v := row (6 * i.toNatClampNeg + wh.toNatClampNeg)) (⟨rfl, hi9, hw9, rfl⟩) (by decide) (by decide) d_BP_mark_59
        · skip
          exact hv_throw hE hl0 (cls := "java/lang/IndexOutOfBoundsException") (text := "what is not 0 .. 5") (names := NMS) (by decide) (by decide) hI hK (hv_thr tw_IOB (by decide)) (by rw [hml]; exact hl.1) d_BP_mark_35 d_BP_mark_38 d_BP_mark_39 d_BP_mark_41 d_BP_mark_44 hout (by decide) (by decide) hlocks (⟨rfl, rfl, Or.inr ⟨hi9, by simp [isBx, c26, show ¬ wh < nI 6 from c32]⟩⟩) (by decide) (by decide) (by decide) (by decide)
    · skip
      exact hv_throw hE hl0 (cls := "java/lang/IndexOutOfBoundsException") (text := "there is no such mark") (names := NMS) (by decide) (by decide) hI hK (hv_thr tw_IOB (by decide)) (by rw [hml]; exact hl.1) d_BP_mark_15 d_BP_mark_18 d_BP_mark_19 d_BP_mark_21 d_BP_mark_24 hout (by decide) (by decide) hlocks (⟨rfl, rfl, Or.inl (by simp [isBx, c1, c12])⟩) (by decide) (by decide) (by decide) (by decide)
end
section
/-! ===== the world: kinds, numbers, where a box begins, which way it goes, its attributes (0 width, 1 height, 2 depth, 3 excess, 4 order, 5 total, 6 badness, 7 overfull, 8 deep, 9 in all) ===== -/
abbrev Wd : Type := (Nat → Int32) × (Nat → Int32) × (Nat → Nat) × (Nat → Bool) × (Nat → Nat → Int32)
def wK (V : Wd) (k : Nat) : Int32 := V.1 k
def wN (V : Wd) (k j : Nat) : Int32 := V.2.1 (5 * k + j)
def wF (V : Wd) (b : Nat) : Nat := V.2.2.1 b
def wB (V : Wd) (b : Nat) : Bool := V.2.2.2.1 b
def wA (V : Wd) (j b : Nat) : Int32 := V.2.2.2.2 j b
def wI (V : Wd) (k : Nat) : Nat := (wN V k 0).toNatClampNeg
/-- the item k as the BoxPacker's cell shows it, its inner box at ad -/
def itO (V : Wd) (ad : Nat → Nat) (k : Nat) : It :=
  if wK V k = 0 then .inl (wN V k 0, wN V k 1, wN V k 2, wN V k 3, none, 0)
  else if wK V k = 1 then .inl (-1, wN V k 0, wN V k 1, wN V k 2, none, 0)
  else if wK V k = 4 then .inl (-1, wA V 0 (wI V k), wA V 1 (wI V k), wA V 2 (wI V k), some (ad (wI V k)), wN V k 1)
  else .inr (wN V k 0, wN V k 1, wN V k 2, wN V k 3, wN V k 4)
def isSo (V : Wd) (k : Nat) : Bool := decide (wK V k = 0) || decide (wK V k = 1) || decide (wK V k = 4)
def szO (V : Wd) (k j : Nat) : Int32 := if wK V k = 0 then wN V k (j + 1) else if wK V k = 1 then kn (wN V k j) 0 else wA V j (wI V k)
def shO (V : Wd) (k : Nat) : Int32 := if wK V k = 4 then wN V k 1 else 0
/-- the rule's size j runs -/
def ruO (V : Wd) (k j : Nat) : Bool := decide (wK V k = 1) && decide (wN V k j = -1073741824)
/-- length, before, across, under, stretches, shrinks -/
abbrev Vl : Type := Int64 × Int64 × Int64 × Int64 × (Nat → Int64) × (Nat → Int64)
def gtr (a v : Int64) : Int64 := if a < v then v else a
def stS (V : Wd) (bel : Bool) (k : Nat) (v : Vl) : Vl :=
  if bel = true then (v.1 + v.2.1 + (szO V k 1).toInt64, (szO V k 2).toInt64, if ruO V k 0 = true then v.2.2.1 else gtr v.2.2.1 ((szO V k 0).toInt64 + (shO V k).toInt64), v.2.2.2)
  else (v.1 + (szO V k 0).toInt64, v.2.1, if ruO V k 1 = true then v.2.2.1 else gtr v.2.2.1 ((szO V k 1).toInt64 - (shO V k).toInt64), if ruO V k 2 = true then v.2.2.2.1 else gtr v.2.2.2.1 ((szO V k 2).toInt64 + (shO V k).toInt64), v.2.2.2.2)
def ckS (V : Wd) (bel : Bool) (k : Nat) (v : Vl) : Bool :=
  if bel = true then sz (v.1 + v.2.1) && sz (v.1 + v.2.1 + (szO V k 1).toInt64) && (ruO V k 0 || sz ((szO V k 0).toInt64 + (shO V k).toInt64))
  else sz (v.1 + (szO V k 0).toInt64) && (ruO V k 1 || sz ((szO V k 1).toInt64 - (shO V k).toInt64)) && (ruO V k 2 || sz ((szO V k 2).toInt64 + (shO V k).toInt64))
def stG (V : Wd) (k : Nat) (s : (Nat → Int64) × (Nat → Int64)) : (Nat → Int64) × (Nat → Int64) :=
  if wK V k = 2 then (vp_updL s.1 (wN V k 2).toNatClampNeg (s.1 (wN V k 2).toNatClampNeg + (wN V k 1).toInt64), vp_updL s.2 (wN V k 4).toNatClampNeg (s.2 (wN V k 4).toNatClampNeg + (wN V k 3).toInt64)) else s
def ckG (V : Wd) (k : Nat) (s : (Nat → Int64) × (Nat → Int64)) : Bool :=
  !decide (wK V k = 2) || (sz (s.1 (wN V k 2).toNatClampNeg + (wN V k 1).toInt64) && sz (s.2 (wN V k 4).toNatClampNeg + (wN V k 3).toInt64))
def stV (V : Wd) (bel : Bool) (k : Nat) (v : Vl) : Vl :=
  if isSo V k = true then stS V bel k v
  else (v.1 + (if bel = true then v.2.1 else 0) + (wN V k 0).toInt64, if bel = true then 0 else v.2.1, v.2.2.1, v.2.2.2.1, stG V k v.2.2.2.2)
def ckV (V : Wd) (bel : Bool) (k : Nat) (v : Vl) : Bool :=
  if isSo V k = true then ckS V bel k v
  else (!bel || sz (v.1 + v.2.1)) && sz (v.1 + (if bel = true then v.2.1 else 0) + (wN V k 0).toInt64) && ckG V k v.2.2.2.2
def v0 : Vl := (0, 0, 0, 0, fun _ => 0, fun _ => 0)
def fL (V : Wd) (bel : Bool) (k0 : Nat) : Nat → Vl
  | 0 => v0
  | i + 1 => stV V bel (k0 + i) (fL V bel k0 i)
def gL (V : Wd) (bel : Bool) (k0 : Nat) : Nat → Bool
  | 0 => true
  | i + 1 => gL V bel k0 i && ckV V bel (k0 + i) (fL V bel k0 i)
/-- the glue of the box's order that lies ahead of its item i -/
def pL (V : Wd) (b : Nat) : Nat → Int64
  | 0 => 0
  | i + 1 => if wK V (wF V b + i) = 2 ∧ wN V (wF V b + i) (if wA V 3 b < 0 then 4 else 2) = wA V 4 b then pL V b i + (wN V (wF V b + i) (if wA V 3 b < 0 then 3 else 1)).toInt64 else pL V b i
def labs (x : Int64) : Int64 := if x < 0 then -x else x
def nearF (a by9 : Int64) : Int64 :=
  if a < 0 then -(if by9 - labs a % by9 ≤ labs a % by9 then labs a / by9 + 1 else labs a / by9) else (if by9 - labs a % by9 ≤ labs a % by9 then labs a / by9 + 1 else labs a / by9)
def usF (V : Wd) (b : Nat) : Int64 := if 0 < wA V 7 b then (-(wA V 5 b)).toInt64 else (wA V 3 b).toInt64
def plF (V : Wd) (b i : Nat) : Int64 :=
  (fL V (wB V b) (wF V b) i).1 + (if wB V b = true ∧ isSo V (wF V b + i) = true then (fL V (wB V b) (wF V b) i).2.1 else 0) + (if wA V 5 b = 0 then 0 else nearF (pL V b i * usF V b) (wA V 5 b).toInt64)
def dL (V : Wd) (k0 : Nat) : Nat → Int32
  | 0 => 0
  | i + 1 => if dL V k0 i < (if wK V (k0 + i) = 4 then wA V 8 (wI V (k0 + i)) else 0) then (if wK V (k0 + i) = 4 then wA V 8 (wI V (k0 + i)) else 0) else dL V k0 i
def cL (V : Wd) (k0 n : Nat) : Nat → Int64
  | 0 => (nI n).toInt64
  | i + 1 => if wK V (k0 + i) = 4 then cL V k0 n i + (wA V 9 (wI V (k0 + i))).toInt64 else cL V k0 n i
def cA9 (V : Wd) (k0 n : Nat) : Int32 := if 1000000 < cL V k0 n n then 1000000 else (cL V k0 n n).toInt32
def oL (s : Nat → Int64) : Nat → Int32 × Int32
  | 0 => (0, 0)
  | k + 1 => if s k = 0 then oL s k else (nI k, (s k).toInt32)
def otF (ex : Int64) (s : (Nat → Int64) × (Nat → Int64)) : Int32 × Int32 := if ex = 0 then (0, 0) else oL (if 0 < ex then s.1 else s.2) 4
def bnF (t s : Int64) : Int32 :=
  if t = 0 then 0 else if s = 0 then 10000 else
    if 1290 < (if t ≤ 7230584 then t * 297 / s else if 1663497 ≤ s then t / (s / 297) else t) then 10000
    else (((if t ≤ 7230584 then t * 297 / s else if 1663497 ≤ s then t / (s / 297) else t) * (if t ≤ 7230584 then t * 297 / s else if 1663497 ≤ s then t / (s / 297) else t) * (if t ≤ 7230584 then t * 297 / s else if 1663497 ≤ s then t / (s / 297) else t) + 131072) / 262144).toInt32
/-- what is missing -/
def msF (ex : Int64) : Int64 := if ex < 0 then -ex else 0
def ovB (ex : Int64) (ot : Int32 × Int32) : Bool := decide (0 < msF ex) && decide (ot.1 = 0) && decide (ot.2.toInt64 < msF ex)
def ovM (ex : Int64) (ot : Int32 × Int32) : Int32 := if ovB ex ot = true then (msF ex - ot.2.toInt64).toInt32 else 0
def baM (ex : Int64) (ot : Int32 × Int32) : Int32 := if ovB ex ot = true then 1000000 else if 0 < ot.1 then 0 else bnF (labs ex) ot.2.toInt64
/-- behind the items: length and depth of a box that goes below -/
def lnM (bel : Bool) (gr : Int32) (v : Vl) : Int64 := if bel = true ∧ gr.toInt64 < v.2.1 then v.1 + (v.2.1 - gr.toInt64) else v.1
def unM (bel : Bool) (gr : Int32) (v : Vl) : Int64 := if bel = true then (if gr.toInt64 < v.2.1 then gr.toInt64 else v.2.1) else v.2.2.2.1
def exM (how size : Int32) (ln : Int64) : Int64 := if how = 0 then 0 else if how = 1 then size.toInt64 - ln else size.toInt64
def gdM (bel : Bool) (how size gr : Int32) (v : Vl) : Bool :=
  (!(bel && decide (gr.toInt64 < v.2.1)) || sz (lnM bel gr v)) && sz (exM how size (lnM bel gr v)) && sz (lnM bel gr v + exM how size (lnM bel gr v))
/-- the attributes of the new box -/
def atM (V : Wd) (bel : Bool) (how size gr : Int32) (k0 n : Nat) (v : Vl) (j : Nat) : Int32 :=
  [(if bel = true then v.2.2.1 else lnM bel gr v + exM how size (lnM bel gr v)).toInt32,
   (if bel = true then lnM bel gr v + exM how size (lnM bel gr v) else v.2.2.1).toInt32,
   (unM bel gr v).toInt32, (exM how size (lnM bel gr v)).toInt32, (otF (exM how size (lnM bel gr v)) v.2.2.2.2).1, (otF (exM how size (lnM bel gr v)) v.2.2.2.2).2,
   baM (exM how size (lnM bel gr v)) (otF (exM how size (lnM bel gr v)) v.2.2.2.2), ovM (exM how size (lnM bel gr v)) (otF (exM how size (lnM bel gr v)) v.2.2.2.2),
   dL V k0 n + 1, cA9 V k0 n].getD j 0
/-! ===== marks ===== -/
abbrev Mk : Type := (Nat → Int64) × Nat
def noteF (t x y w h d : Int64) (r : Mk) : Bool × Mk :=
  if r.2 = 1000 then (false, r) else (true, (vp_updL (vp_updL (vp_updL (vp_updL (vp_updL (vp_updL r.1 (6 * r.2) t) (6 * r.2 + 1) x) (6 * r.2 + 2) y) (6 * r.2 + 3) w) (6 * r.2 + 4) h) (6 * r.2 + 5) d, r.2 + 1))
/-- a rule's size in the box b -/
def rdF (V : Wd) (b k j : Nat) : Int64 :=
  if wN V k j = -1073741824 then (if wB V b = true then (if j = 0 then (wA V 0 b).toInt64 else 0) else if j = 1 then (wA V 1 b).toInt64 else if j = 2 then (wA V 2 b).toInt64 else 0) else (wN V k j).toInt64
def mxF (V : Wd) (b i : Nat) (x : Int64) : Int64 := if wB V b = true then x else x + plF V b i
def tpF (V : Wd) (b i : Nat) (y : Int64) : Int64 := if wB V b = true then y - (wA V 1 b).toInt64 + plF V b i else y
def layI (V : Wd) (go : Nat → Int64 → Int64 → Mk → Bool × Mk) (b : Nat) (x y : Int64) (i : Nat) (r : Mk) : Bool × Mk :=
  if wK V (wF V b + i) = 0 then noteF (wN V (wF V b + i) 0).toInt64 (mxF V b i x) (if wB V b = true then tpF V b i y + (wN V (wF V b + i) 2).toInt64 else tpF V b i y) (wN V (wF V b + i) 1).toInt64 (wN V (wF V b + i) 2).toInt64 (wN V (wF V b + i) 3).toInt64 r
  else if wK V (wF V b + i) = 1 then
    (if rdF V b (wF V b + i) 0 ≤ 0 ∨ rdF V b (wF V b + i) 1 + rdF V b (wF V b + i) 2 ≤ 0 then (true, r) else noteF (-1) (mxF V b i x) (if wB V b = true then tpF V b i y + rdF V b (wF V b + i) 1 else tpF V b i y) (rdF V b (wF V b + i) 0) (rdF V b (wF V b + i) 1) (rdF V b (wF V b + i) 2) r)
  else if wK V (wF V b + i) = 4 then
    (if wB V b = true then go (wI V (wF V b + i)) (mxF V b i x + (wN V (wF V b + i) 1).toInt64) (tpF V b i y + (wA V 1 (wI V (wF V b + i))).toInt64) r else go (wI V (wF V b + i)) (mxF V b i x) (tpF V b i y + (wN V (wF V b + i) 1).toInt64) r)
  else (true, r)
def layL (it : Nat → Mk → Bool × Mk) : Nat → Nat → Mk → Bool × Mk
  | 0, _, r => (true, r)
  | k + 1, i, r => if (it i r).1 = true then layL it k (i + 1) (it i r).2 else (false, (it i r).2)
def layF (V : Wd) : Nat → Nat → Int64 → Int64 → Mk → Bool × Mk
  | 0, _, _, _, r => (true, r)
  | n + 1, b, x, y, r => layL (layI V (layF V n) b x y) (wF V (b + 1) - wF V b) 0 r
end
section
/-! ===== laying out ===== -/
/-- the marks r lie at mk and rw9 -/
def mkAt (cA : Nat → ClassId) (f : hv_M) (mk rw9 : Nat) (r : Mk) : Prop := f mk = some (.inr (4, [.ref rw9, .int (nI r.2)])) ∧ f rw9 = some (.inl (cA 1, 6000, .inr (.inl (r.1))))
theorem mk6 (md j : Nat) : nI md * 6 = nI (6 * md) := by
  rw [show (6 : Int32) = nI 6 from rfl]; simp only [nI]; rw [← Int32.ofNat_mul, Nat.mul_comm]
/-- an item without an inner box, at its place p in a box -/
def layC (bel : Bool) (bw bh bd t w h d z p : Int32) (x y : Int64) (r : Mk) : Bool × Mk :=
  if t = -1 ∧ ¬ (0 < kn w (if bel = true then bw else 0) ∧ 0 < kn h (if bel = true then 0 else bh) + kn d (if bel = true then 0 else bd)) then (true, r)
  else noteF t.toInt64 (if bel = true then x + z.toInt64 else x + p.toInt64) (if bel = true then y - bh.toInt64 + p.toInt64 + (kn h 0).toInt64 else y + z.toInt64) (kn w (if bel = true then bw else 0)).toInt64 (kn h (if bel = true then 0 else bh)).toInt64 (kn d (if bel = true then 0 else bd)).toInt64 r

set_option maxHeartbeats 4000000 in
set_option maxRecDepth 100000 in
theorem c_Marks_add (l : Launch) (hl0 : l.stackTraces = false) (b0 : Nat) (D : va_G) (cA : Nat → ClassId) (f : hv_M) (mk rw9 : Nat) (t w h d : Int32) (X Y : Int64) (r : Mk) (hm : mkAt cA f mk rw9 r) (hr9 : r.2 ≤ 1000) : hv_Met l y_Marks_add [Cond.code y_Marks_add b_Marks_add 10 (some FieldType.boolean)] (RM 0 0 0) b0 (Fa D cA) D CL [.ref mk, .int t, .long X, .long Y, .int w, .int h, .int d] f (fun v g => v = some (.int (b2i (noteF t.toInt64 X Y w.toInt64 h.toInt64 d.toInt64 r).1)) ∧ mkAt cA g mk rw9 (noteF t.toInt64 X Y w.toInt64 h.toInt64 d.toInt64 r).2 ∧ ∀ z, z ≠ mk → z ≠ rw9 → g z = f z) (NX) := by
  refine hv_Met.of (own := "BoxPacker$Marks") (by decide) rfl (Nat.le_of_ble_eq_true rfl) ?_
  intro p e s m below meth c hE hml hout hr hlocks hname hK hI ls hl
  have hl : lv_has ls 10 [(0, .ref mk), (1, .int t), (2, .long X), (4, .long Y), (6, .int w), (7, .int h), (8, .int d)] := hl
  obtain ⟨hx, hb, hown, hts, hVK⟩ := id hE
  have hne : mk ≠ rw9 := hv_ne hm.1 hm.2 (by simp)
  refine lv_aload_n hx hb d_Marks_add_0 rfl (lv_at hl 0 rfl) ?_
  refine hv_get hE k_Marks hI 1 (by decide) w36 hm.1 rfl d_Marks_add_1 ?_
  refine lv_sipush (v := 1000) hx hb d_Marks_add_4 (by decide) ?_
  refine lv_icmp_lt (tgt := 12) hx hb d_Marks_add_7 (by decide) (fun c7 => ?_) (fun c7 => ?_)
  · skip
    have hlt : r.2 < 1000 := (nI_ltI (b := 1000) (by omega) (by decide)).mp c7
    have hnt : ∀ t x y w h d, noteF t x y w h d r = (true, (vp_updL (vp_updL (vp_updL (vp_updL (vp_updL (vp_updL r.1 (6 * r.2) t) (6 * r.2 + 1) x) (6 * r.2 + 2) y) (6 * r.2 + 3) w) (6 * r.2 + 4) h) (6 * r.2 + 5) d, r.2 + 1)) := fun t x y w h d => if_neg (by omega)
    refine lv_aload_n hx hb d_Marks_add_12 rfl (lv_at hl 0 rfl) ?_
    refine hv_get hE k_Marks hI 1 (by decide) w36 hm.1 rfl d_Marks_add_13 ?_
    refine lv_bipush (v := 6) hx hb d_Marks_add_16 (by decide) ?_
    refine lv_imul hx hb d_Marks_add_18 ?_
    refine lv_istore (lv' := [(9, .int ((nI r.2) * 6)), (0, .ref mk), (1, .int t), (2, .long X), (4, .long Y), (6, .int w), (7, .int h), (8, .int d)]) hx hb d_Marks_add_19 hl (by decide) rfl (fun ls hl => ?_)
    refine lv_aload_n hx hb d_Marks_add_21 rfl (lv_at hl 1 rfl) ?_
    refine hv_get hE k_Marks hI 0 (by decide) w34 hm.1 rfl d_Marks_add_22 ?_
    refine lv_iload hx hb d_Marks_add_25 (lv_at hl 0 rfl) ?_
    refine lv_iload_n hx hb d_Marks_add_27 rfl (lv_at hl 2 rfl) ?_
    refine lv_i2l (v := t.toInt64) hx hb d_Marks_add_28 rfl ?_
    refine hv_last hE hI 1 hm.2 rfl (by rw [mk6 r.2 0, show nI (6 * r.2) = nI (6 * r.2) from rfl]; exact pk_in _ 6000 (by omega) rfl (by omega)) d_Marks_add_29 (fun H locs hI => ?_)
    rw [mk6 r.2 0, nI_cl (by omega)] at hI
    obtain ⟨g1, eg1⟩ : ∃ z : hv_M, z = hv_up f rw9 (.inl (cA 1, 6000, .inr (.inl (vp_updL r.1 (6 * r.2) t.toInt64)))) := ⟨_, rfl⟩
    have hI : hv_I D CL b0 g1 s.heap H locs := by rw [eg1]; exact hI
    have h2 : g1 mk = some (.inr (4, [.ref rw9, .int (nI r.2)])) := by rw [eg1]; rw [hv_up_ne _ _ (hv_ne hm.1 hm.2 (by simp))]; exact hm.1
    have h3 : g1 rw9 = some (.inl (cA 1, 6000, .inr (.inl (vp_updL r.1 (6 * r.2) t.toInt64)))) := by rw [eg1]; exact hv_up_self _ _ _
    refine lv_aload_n hx hb d_Marks_add_30 rfl (lv_at hl 1 rfl) ?_
    refine hv_get hE k_Marks hI 0 (by decide) w34 h2 rfl d_Marks_add_31 ?_
    refine lv_iload hx hb d_Marks_add_34 (lv_at hl 0 rfl) ?_
    refine lv_iconst (v := 1) hx hb d_Marks_add_36 (by decide) ?_
    refine lv_iadd hx hb d_Marks_add_37 ?_
    refine lv_lload_n hx hb d_Marks_add_38 rfl (lv_at hl 3 rfl) ?_
    refine hv_last hE hI 1 h3 rfl (by rw [mk6 r.2 0, show (1 : Int32) = nI 1 from rfl, nI_add]; exact pk_in _ 6000 (by omega) rfl (by omega)) d_Marks_add_39 (fun H locs hI => ?_)
    rw [mk6 r.2 0, show (1 : Int32) = nI 1 from rfl, nI_add, nI_cl (by omega)] at hI
    obtain ⟨g4, eg4⟩ : ∃ z : hv_M, z = hv_up g1 rw9 (.inl (cA 1, 6000, .inr (.inl (vp_updL (vp_updL r.1 (6 * r.2) t.toInt64) (6 * r.2 + 1) X)))) := ⟨_, rfl⟩
    have hI : hv_I D CL b0 g4 s.heap H locs := by rw [eg4]; exact hI
    have h5 : g4 mk = some (.inr (4, [.ref rw9, .int (nI r.2)])) := by rw [eg4]; rw [hv_up_ne _ _ (hv_ne h2 h3 (by simp))]; exact h2
    have h6 : g4 rw9 = some (.inl (cA 1, 6000, .inr (.inl (vp_updL (vp_updL r.1 (6 * r.2) t.toInt64) (6 * r.2 + 1) X)))) := by rw [eg4]; exact hv_up_self _ _ _
    refine lv_aload_n hx hb d_Marks_add_40 rfl (lv_at hl 1 rfl) ?_
    refine hv_get hE k_Marks hI 0 (by decide) w34 h5 rfl d_Marks_add_41 ?_
    refine lv_iload hx hb d_Marks_add_44 (lv_at hl 0 rfl) ?_
    refine lv_iconst (v := 2) hx hb d_Marks_add_46 (by decide) ?_
    refine lv_iadd hx hb d_Marks_add_47 ?_
    refine lv_lload hx hb d_Marks_add_48 (lv_at hl 4 rfl) ?_
    refine hv_last hE hI 1 h6 rfl (by rw [mk6 r.2 0, show (2 : Int32) = nI 2 from rfl, nI_add]; exact pk_in _ 6000 (by omega) rfl (by omega)) d_Marks_add_50 (fun H locs hI => ?_)
    rw [mk6 r.2 0, show (2 : Int32) = nI 2 from rfl, nI_add, nI_cl (by omega)] at hI
    obtain ⟨g7, eg7⟩ : ∃ z : hv_M, z = hv_up g4 rw9 (.inl (cA 1, 6000, .inr (.inl (vp_updL (vp_updL (vp_updL r.1 (6 * r.2) t.toInt64) (6 * r.2 + 1) X) (6 * r.2 + 2) Y)))) := ⟨_, rfl⟩
    have hI : hv_I D CL b0 g7 s.heap H locs := by rw [eg7]; exact hI
    have h8 : g7 mk = some (.inr (4, [.ref rw9, .int (nI r.2)])) := by rw [eg7]; rw [hv_up_ne _ _ (hv_ne h5 h6 (by simp))]; exact h5
    have h9 : g7 rw9 = some (.inl (cA 1, 6000, .inr (.inl (vp_updL (vp_updL (vp_updL r.1 (6 * r.2) t.toInt64) (6 * r.2 + 1) X) (6 * r.2 + 2) Y)))) := by rw [eg7]; exact hv_up_self _ _ _
    refine lv_aload_n hx hb d_Marks_add_51 rfl (lv_at hl 1 rfl) ?_
    refine hv_get hE k_Marks hI 0 (by decide) w34 h8 rfl d_Marks_add_52 ?_
    refine lv_iload hx hb d_Marks_add_55 (lv_at hl 0 rfl) ?_
    refine lv_iconst (v := 3) hx hb d_Marks_add_57 (by decide) ?_
    refine lv_iadd hx hb d_Marks_add_58 ?_
    refine lv_iload hx hb d_Marks_add_59 (lv_at hl 5 rfl) ?_
    refine lv_i2l (v := w.toInt64) hx hb d_Marks_add_61 rfl ?_
    refine hv_last hE hI 1 h9 rfl (by rw [mk6 r.2 0, show (3 : Int32) = nI 3 from rfl, nI_add]; exact pk_in _ 6000 (by omega) rfl (by omega)) d_Marks_add_62 (fun H locs hI => ?_)
    rw [mk6 r.2 0, show (3 : Int32) = nI 3 from rfl, nI_add, nI_cl (by omega)] at hI
    obtain ⟨g10, eg10⟩ : ∃ z : hv_M, z = hv_up g7 rw9 (.inl (cA 1, 6000, .inr (.inl (vp_updL (vp_updL (vp_updL (vp_updL r.1 (6 * r.2) t.toInt64) (6 * r.2 + 1) X) (6 * r.2 + 2) Y) (6 * r.2 + 3) w.toInt64)))) := ⟨_, rfl⟩
    have hI : hv_I D CL b0 g10 s.heap H locs := by rw [eg10]; exact hI
    have h11 : g10 mk = some (.inr (4, [.ref rw9, .int (nI r.2)])) := by rw [eg10]; rw [hv_up_ne _ _ (hv_ne h8 h9 (by simp))]; exact h8
    have h12 : g10 rw9 = some (.inl (cA 1, 6000, .inr (.inl (vp_updL (vp_updL (vp_updL (vp_updL r.1 (6 * r.2) t.toInt64) (6 * r.2 + 1) X) (6 * r.2 + 2) Y) (6 * r.2 + 3) w.toInt64)))) := by rw [eg10]; exact hv_up_self _ _ _
    refine lv_aload_n hx hb d_Marks_add_63 rfl (lv_at hl 1 rfl) ?_
    refine hv_get hE k_Marks hI 0 (by decide) w34 h11 rfl d_Marks_add_64 ?_
    refine lv_iload hx hb d_Marks_add_67 (lv_at hl 0 rfl) ?_
    refine lv_iconst (v := 4) hx hb d_Marks_add_69 (by decide) ?_
    refine lv_iadd hx hb d_Marks_add_70 ?_
    refine lv_iload hx hb d_Marks_add_71 (lv_at hl 6 rfl) ?_
    refine lv_i2l (v := h.toInt64) hx hb d_Marks_add_73 rfl ?_
    refine hv_last hE hI 1 h12 rfl (by rw [mk6 r.2 0, show (4 : Int32) = nI 4 from rfl, nI_add]; exact pk_in _ 6000 (by omega) rfl (by omega)) d_Marks_add_74 (fun H locs hI => ?_)
    rw [mk6 r.2 0, show (4 : Int32) = nI 4 from rfl, nI_add, nI_cl (by omega)] at hI
    obtain ⟨g13, eg13⟩ : ∃ z : hv_M, z = hv_up g10 rw9 (.inl (cA 1, 6000, .inr (.inl (vp_updL (vp_updL (vp_updL (vp_updL (vp_updL r.1 (6 * r.2) t.toInt64) (6 * r.2 + 1) X) (6 * r.2 + 2) Y) (6 * r.2 + 3) w.toInt64) (6 * r.2 + 4) h.toInt64)))) := ⟨_, rfl⟩
    have hI : hv_I D CL b0 g13 s.heap H locs := by rw [eg13]; exact hI
    have h14 : g13 mk = some (.inr (4, [.ref rw9, .int (nI r.2)])) := by rw [eg13]; rw [hv_up_ne _ _ (hv_ne h11 h12 (by simp))]; exact h11
    have h15 : g13 rw9 = some (.inl (cA 1, 6000, .inr (.inl (vp_updL (vp_updL (vp_updL (vp_updL (vp_updL r.1 (6 * r.2) t.toInt64) (6 * r.2 + 1) X) (6 * r.2 + 2) Y) (6 * r.2 + 3) w.toInt64) (6 * r.2 + 4) h.toInt64)))) := by rw [eg13]; exact hv_up_self _ _ _
    refine lv_aload_n hx hb d_Marks_add_75 rfl (lv_at hl 1 rfl) ?_
    refine hv_get hE k_Marks hI 0 (by decide) w34 h14 rfl d_Marks_add_76 ?_
    refine lv_iload hx hb d_Marks_add_79 (lv_at hl 0 rfl) ?_
    refine lv_iconst (v := 5) hx hb d_Marks_add_81 (by decide) ?_
    refine lv_iadd hx hb d_Marks_add_82 ?_
    refine lv_iload hx hb d_Marks_add_83 (lv_at hl 7 rfl) ?_
    refine lv_i2l (v := d.toInt64) hx hb d_Marks_add_85 rfl ?_
    refine hv_last hE hI 1 h15 rfl (by rw [mk6 r.2 0, show (5 : Int32) = nI 5 from rfl, nI_add]; exact pk_in _ 6000 (by omega) rfl (by omega)) d_Marks_add_86 (fun H locs hI => ?_)
    rw [mk6 r.2 0, show (5 : Int32) = nI 5 from rfl, nI_add, nI_cl (by omega)] at hI
    obtain ⟨g16, eg16⟩ : ∃ z : hv_M, z = hv_up g13 rw9 (.inl (cA 1, 6000, .inr (.inl (vp_updL (vp_updL (vp_updL (vp_updL (vp_updL (vp_updL r.1 (6 * r.2) t.toInt64) (6 * r.2 + 1) X) (6 * r.2 + 2) Y) (6 * r.2 + 3) w.toInt64) (6 * r.2 + 4) h.toInt64) (6 * r.2 + 5) d.toInt64)))) := ⟨_, rfl⟩
    have hI : hv_I D CL b0 g16 s.heap H locs := by rw [eg16]; exact hI
    have h17 : g16 mk = some (.inr (4, [.ref rw9, .int (nI r.2)])) := by rw [eg16]; rw [hv_up_ne _ _ (hv_ne h14 h15 (by simp))]; exact h14
    have h18 : g16 rw9 = some (.inl (cA 1, 6000, .inr (.inl (vp_updL (vp_updL (vp_updL (vp_updL (vp_updL (vp_updL r.1 (6 * r.2) t.toInt64) (6 * r.2 + 1) X) (6 * r.2 + 2) Y) (6 * r.2 + 3) w.toInt64) (6 * r.2 + 4) h.toInt64) (6 * r.2 + 5) d.toInt64)))) := by rw [eg16]; exact hv_up_self _ _ _
    refine lv_aload_n hx hb d_Marks_add_87 rfl (lv_at hl 1 rfl) ?_
    refine lv_dup hx hb d_Marks_add_88 rfl ?_
    refine hv_get hE k_Marks hI 1 (by decide) w36 h17 rfl d_Marks_add_89 ?_
    refine lv_iconst (v := 1) hx hb d_Marks_add_92 (by decide) ?_
    refine lv_iadd hx hb d_Marks_add_93 ?_
    refine hv_put hE k_Marks hI 1 (by decide) w36 h17 rfl rfl rfl (Nat.le_of_ble_eq_true rfl) d_Marks_add_94 (fun H locs hI => ?_)
    obtain ⟨g19, eg19⟩ : ∃ z : hv_M, z = hv_up g16 mk (.inr (4, [.ref rw9, .int ((nI r.2) + 1)])) := ⟨_, rfl⟩
    have hI : hv_I D CL b0 g19 s.heap H locs := by rw [eg19]; exact hI
    have h20 : g19 mk = some (.inr (4, [.ref rw9, .int ((nI r.2) + 1)])) := by rw [eg19]; exact hv_up_self _ _ _
    have h21 : g19 rw9 = some (.inl (cA 1, 6000, .inr (.inl (vp_updL (vp_updL (vp_updL (vp_updL (vp_updL (vp_updL r.1 (6 * r.2) t.toInt64) (6 * r.2 + 1) X) (6 * r.2 + 2) Y) (6 * r.2 + 3) w.toInt64) (6 * r.2 + 4) h.toInt64) (6 * r.2 + 5) d.toInt64)))) := by rw [eg19]; rw [hv_up_ne _ _ (hv_ne h18 h17 (by simp))]; exact h18
    refine lv_iconst (v := 1) hx hb d_Marks_add_97 (by decide) ?_
    exact hv_zret hE hr hlocks hI hK (v := 1) (by first | rfl | exact b2i_nar _) (⟨by rw [hnt]; rfl, by rw [hnt]; exact ⟨by rw [← nI_1]; exact h20, h21⟩, fun z z1 z2 => by rw [eg19, hv_up_ne _ _ z1, eg16, hv_up_ne _ _ z2, eg13, hv_up_ne _ _ z2, eg10, hv_up_ne _ _ z2, eg7, hv_up_ne _ _ z2, eg4, hv_up_ne _ _ z2, eg1, hv_up_ne _ _ z2]⟩) (by decide) (by decide) d_Marks_add_98
  · skip
    have hge : r.2 = 1000 := by have h9 : ¬ r.2 < 1000 := fun q => c7 ((nI_ltI (b := 1000) (by omega) (by decide)).mpr q); omega
    have hnt : ∀ t x y w h d, noteF t x y w h d r = (false, r) := fun t x y w h d => if_pos hge
    refine lv_iconst (v := 0) hx hb d_Marks_add_10 (by decide) ?_
    exact hv_zret hE hr hlocks hI hK (v := 0) (by first | rfl | exact b2i_nar _) (⟨by rw [hnt]; rfl, by rw [hnt]; exact hm, fun _ _ _ => rfl⟩) (by decide) (by decide) d_Marks_add_11

set_option maxHeartbeats 4000000 in
set_option maxRecDepth 100000 in
theorem c_BP_layOutItemN (l : Launch) (hl0 : l.stackTraces = false) (b0 : Nat) (D : va_G) (cA : Nat → ClassId) (f : hv_M) (x la ma mk n bn rw9 bx ca pa q : Nat) (bel : Bool) (dp al bw bh bd ex od to ov t w h d z pl : Int32) (X Y : Int64) (r : Mk) (hx0 : f x = some (.inr (0, [.ref la, .int (nI n), .ref ma, .int (nI bn), .ref mk]))) (hbx : f bx = some (.inr (1, [.int (b2i bel), .ref ca, .ref pa, .int dp, .int al, .int bw, .int bh, .int bd, .int ex, .int od, .int to, .int ov]))) (hm : mkAt cA f mk rw9 r) (hr9 : r.2 ≤ 1000) (hq : f q = some (.inr (2, [.int t, .int w, .int h, .int d, .null, .int z]))) : hv_Met l y_BP_layOutItem [Cond.code y_BP_layOutItem b_BP_layOutItem 16 (some FieldType.boolean)] (RM 2 0 0) b0 (Fa D cA) D CL [.ref x, .ref bx, .ref q, .int pl, .long X, .long Y] f (fun v g => v = some (.int (b2i (layC bel bw bh bd t w h d z pl X Y r).1)) ∧ mkAt cA g mk rw9 (layC bel bw bh bd t w h d z pl X Y r).2 ∧ ∀ z, z ≠ mk → z ≠ rw9 → g z = f z) (NX) := by
  refine hv_Met.of (own := "BoxPacker") (by decide) rfl (Nat.le_of_ble_eq_true rfl) ?_
  intro p e s m below meth c hE hml hout hr hlocks hname hK hI ls hl
  have hl : lv_has ls 16 [(0, .ref x), (1, .ref bx), (2, .ref q), (3, .int pl), (4, .long X), (6, .long Y)] := hl
  obtain ⟨hx, hb, hown, hts, hVK⟩ := id hE
  refine lv_aload_n hx hb d_BP_layOutItem_0 rfl (lv_at hl 1 rfl) ?_
  refine hv_getN hE k_Box hI 0 (by decide) w330 hbx rfl d_BP_layOutItem_1 ?_
  refine lv_if_eq (tgt := 18) hx hb d_BP_layOutItem_4 (by decide) (fun c4 => ?_) (fun c4 => ?_)
  · skip
    have hbl : bel = false := b2i_f c4
    refine lv_lload hx hb d_BP_layOutItem_18 (lv_at hl 4 rfl) ?_
    refine lv_iload_n hx hb d_BP_layOutItem_20 rfl (lv_at hl 3 rfl) ?_
    refine lv_i2l (v := pl.toInt64) hx hb d_BP_layOutItem_21 rfl ?_
    refine lv_ladd hx hb d_BP_layOutItem_22 ?_
    refine lv_lstore (lv' := [(8, .long (X + pl.toInt64)), (0, .ref x), (1, .ref bx), (2, .ref q), (3, .int pl), (4, .long X), (6, .long Y)]) hx hb d_BP_layOutItem_23 hl (by decide) rfl (fun ls hl => ?_)
    refine lv_aload_n hx hb d_BP_layOutItem_25 rfl (lv_at hl 2 rfl) ?_
    refine hv_getN hE k_Box hI 0 (by decide) w330 hbx rfl d_BP_layOutItem_26 ?_
    refine lv_if_eq (tgt := 55) hx hb d_BP_layOutItem_29 (by decide) (fun c29 => ?_) (fun c29 => ?_)
    · skip
      refine lv_lload hx hb d_BP_layOutItem_55 (lv_at hl 6 rfl) ?_
      refine lv_aload_n hx hb d_BP_layOutItem_57 rfl (lv_at hl 3 rfl) ?_
      refine hv_getN hE k_Solid hI 5 (by decide) w202 hq rfl d_BP_layOutItem_58 ?_
      refine lv_i2l (v := z.toInt64) hx hb d_BP_layOutItem_61 rfl ?_
      refine lv_ladd hx hb d_BP_layOutItem_62 ?_
      refine lv_lstore (lv' := [(10, .long (Y + z.toInt64)), (8, .long (X + pl.toInt64)), (0, .ref x), (1, .ref bx), (2, .ref q), (3, .int pl), (4, .long X), (6, .long Y)]) hx hb d_BP_layOutItem_63 hl (by decide) rfl (fun ls hl => ?_)
      refine lv_aload_n hx hb d_BP_layOutItem_65 rfl (lv_at hl 4 rfl) ?_
      refine hv_getN hE k_Solid hI 4 (by decide) w199 hq rfl d_BP_layOutItem_66 ?_
      refine lv_ifnullN (tgt := 85) hx hb d_BP_layOutItem_69 (by decide) ?_
      refine lv_aload_n hx hb d_BP_layOutItem_85 rfl (lv_at hl 4 rfl) ?_
      refine hv_getN hE k_Solid hI 1 (by decide) w190 hq rfl d_BP_layOutItem_86 ?_
      refine lv_aload_n hx hb d_BP_layOutItem_89 rfl (lv_at hl 3 rfl) ?_
      refine hv_getN hE k_Box hI 0 (by decide) w330 hbx rfl d_BP_layOutItem_90 ?_
      refine lv_if_eq (tgt := 103) hx hb d_BP_layOutItem_93 (by decide) (fun c93 => ?_) (fun c93 => ?_)
      · skip
        refine lv_iconst (v := 0) hx hb d_BP_layOutItem_103 (by decide) ?_
        refine hv_Sp (As := [.int w, .int 0]) (rest := []) hE hml hK hI (c_BP_known2 l hl0 b0 D cA f w 0) cd_BP_known2 w410 w411 rfl rfl rfl hl.1 (Nat.le_of_ble_eq_true rfl) d_BP_layOutItem_104 ⟨by decide, by decide⟩ ⟨by decide, by decide⟩ (fun H locs hI => ?_)
        refine W.eq (g2 := F0 m 107 ls [.int (kn w 0)]) rfl ?_
        refine lv_istore (lv' := [(12, .int (kn w 0)), (10, .long (Y + z.toInt64)), (8, .long (X + pl.toInt64)), (0, .ref x), (1, .ref bx), (2, .ref q), (3, .int pl), (4, .long X), (6, .long Y)]) hx hb d_BP_layOutItem_107 hl (by decide) rfl (fun ls hl => ?_)
        refine lv_aload_n hx hb d_BP_layOutItem_109 rfl (lv_at hl 5 rfl) ?_
        refine hv_getN hE k_Solid hI 2 (by decide) w193 hq rfl d_BP_layOutItem_110 ?_
        refine lv_aload_n hx hb d_BP_layOutItem_113 rfl (lv_at hl 4 rfl) ?_
        refine hv_getN hE k_Box hI 0 (by decide) w330 hbx rfl d_BP_layOutItem_114 ?_
        refine lv_if_eq (tgt := 124) hx hb d_BP_layOutItem_117 (by decide) (fun c117 => ?_) (fun c117 => ?_)
        · skip
          refine lv_aload_n hx hb d_BP_layOutItem_124 rfl (lv_at hl 4 rfl) ?_
          refine hv_getN hE k_Box hI 6 (by decide) w342 hbx rfl d_BP_layOutItem_125 ?_
          refine hv_Sp (As := [.int h, .int bh]) (rest := []) hE hml hK hI (c_BP_known2 l hl0 b0 D cA f h bh) cd_BP_known2 w410 w411 rfl rfl rfl hl.1 (Nat.le_of_ble_eq_true rfl) d_BP_layOutItem_128 ⟨by decide, by decide⟩ ⟨by decide, by decide⟩ (fun H locs hI => ?_)
          refine W.eq (g2 := F0 m 131 ls [.int (kn h bh)]) rfl ?_
          refine lv_istore (lv' := [(13, .int (kn h bh)), (12, .int (kn w 0)), (10, .long (Y + z.toInt64)), (8, .long (X + pl.toInt64)), (0, .ref x), (1, .ref bx), (2, .ref q), (3, .int pl), (4, .long X), (6, .long Y)]) hx hb d_BP_layOutItem_131 hl (by decide) rfl (fun ls hl => ?_)
          refine lv_aload_n hx hb d_BP_layOutItem_133 rfl (lv_at hl 6 rfl) ?_
          refine hv_getN hE k_Solid hI 3 (by decide) w196 hq rfl d_BP_layOutItem_134 ?_
          refine lv_aload_n hx hb d_BP_layOutItem_137 rfl (lv_at hl 5 rfl) ?_
          refine hv_getN hE k_Box hI 0 (by decide) w330 hbx rfl d_BP_layOutItem_138 ?_
          refine lv_if_eq (tgt := 148) hx hb d_BP_layOutItem_141 (by decide) (fun c141 => ?_) (fun c141 => ?_)
          · skip
            refine lv_aload_n hx hb d_BP_layOutItem_148 rfl (lv_at hl 5 rfl) ?_
            refine hv_getN hE k_Box hI 7 (by decide) w344 hbx rfl d_BP_layOutItem_149 ?_
            refine hv_Sp (As := [.int d, .int bd]) (rest := []) hE hml hK hI (c_BP_known2 l hl0 b0 D cA f d bd) cd_BP_known2 w410 w411 rfl rfl rfl hl.1 (Nat.le_of_ble_eq_true rfl) d_BP_layOutItem_152 ⟨by decide, by decide⟩ ⟨by decide, by decide⟩ (fun H locs hI => ?_)
            refine W.eq (g2 := F0 m 155 ls [.int (kn d bd)]) rfl ?_
            refine lv_istore (lv' := [(14, .int (kn d bd)), (13, .int (kn h bh)), (12, .int (kn w 0)), (10, .long (Y + z.toInt64)), (8, .long (X + pl.toInt64)), (0, .ref x), (1, .ref bx), (2, .ref q), (3, .int pl), (4, .long X), (6, .long Y)]) hx hb d_BP_layOutItem_155 hl (by decide) rfl (fun ls hl => ?_)
            refine lv_aload_n hx hb d_BP_layOutItem_157 rfl (lv_at hl 7 rfl) ?_
            refine hv_getN hE k_Solid hI 0 (by decide) w187 hq rfl d_BP_layOutItem_158 ?_
            refine lv_iconst (v := (-1)) hx hb d_BP_layOutItem_161 (by decide) ?_
            refine lv_icmp_eq (tgt := 169) hx hb d_BP_layOutItem_162 (by decide) (fun c162 => ?_) (fun c162 => ?_)
            · skip
              refine lv_iconst (v := 0) hx hb d_BP_layOutItem_169 (by decide) ?_
              refine lv_istore (lv' := [(15, .int 0), (14, .int (kn d bd)), (13, .int (kn h bh)), (12, .int (kn w 0)), (10, .long (Y + z.toInt64)), (8, .long (X + pl.toInt64)), (0, .ref x), (1, .ref bx), (2, .ref q), (3, .int pl), (4, .long X), (6, .long Y)]) hx hb d_BP_layOutItem_170 hl (by decide) rfl (fun ls hl => ?_)
              refine lv_iload hx hb d_BP_layOutItem_172 (lv_at hl 0 rfl) ?_
              refine lv_if_ne (tgt := 190) hx hb d_BP_layOutItem_174 (by decide) (fun c174 => ?_) (fun c174 => ?_)
              · skip
                exact absurd rfl c174
              · skip
                refine lv_iload hx hb d_BP_layOutItem_177 (lv_at hl 3 rfl) ?_
                refine lv_if_le (tgt := 212) hx hb d_BP_layOutItem_179 (by decide) (fun c179 => ?_) (fun c179 => ?_)
                · skip
                  refine lv_iconst (v := 1) hx hb d_BP_layOutItem_212 (by decide) ?_
                  exact hv_zret hE hr hlocks hI hK (v := 1) (by first | rfl | exact b2i_nar _) ((show _ ∧ _ ∧ _ by rw [show layC bel bw bh bd t w h d z pl X Y r = (true, r) from if_pos ⟨c162, fun q9 => Int32.not_lt.mpr c179 (by simpa [hbl] using q9.1)⟩]; exact ⟨rfl, hm, fun _ _ _ => rfl⟩)) (by decide) (by decide) d_BP_layOutItem_213
                · skip
                  refine lv_iload hx hb d_BP_layOutItem_182 (lv_at hl 2 rfl) ?_
                  refine lv_iload hx hb d_BP_layOutItem_184 (lv_at hl 1 rfl) ?_
                  refine lv_iadd hx hb d_BP_layOutItem_186 ?_
                  refine lv_if_le (tgt := 212) hx hb d_BP_layOutItem_187 (by decide) (fun c187 => ?_) (fun c187 => ?_)
                  · skip
                    refine lv_iconst (v := 1) hx hb d_BP_layOutItem_212 (by decide) ?_
                    exact hv_zret hE hr hlocks hI hK (v := 1) (by first | rfl | exact b2i_nar _) ((show _ ∧ _ ∧ _ by rw [show layC bel bw bh bd t w h d z pl X Y r = (true, r) from if_pos ⟨c162, fun q9 => Int32.not_lt.mpr c187 (by simpa [hbl] using q9.2)⟩]; exact ⟨rfl, hm, fun _ _ _ => rfl⟩)) (by decide) (by decide) d_BP_layOutItem_213
                  · skip
                    refine lv_aload_n hx hb d_BP_layOutItem_190 rfl (lv_at hl 6 rfl) ?_
                    refine hv_get hE k_BP hI 4 (by decide) w48 hx0 rfl d_BP_layOutItem_191 ?_
                    refine lv_aload_n hx hb d_BP_layOutItem_194 rfl (lv_at hl 8 rfl) ?_
                    refine hv_getN hE k_Solid hI 0 (by decide) w187 hq rfl d_BP_layOutItem_195 ?_
                    refine lv_lload hx hb d_BP_layOutItem_198 (lv_at hl 5 rfl) ?_
                    refine lv_lload hx hb d_BP_layOutItem_200 (lv_at hl 4 rfl) ?_
                    refine lv_iload hx hb d_BP_layOutItem_202 (lv_at hl 3 rfl) ?_
                    refine lv_iload hx hb d_BP_layOutItem_204 (lv_at hl 2 rfl) ?_
                    refine lv_iload hx hb d_BP_layOutItem_206 (lv_at hl 1 rfl) ?_
                    refine hv_VN (As := [.int t, .long (X + pl.toInt64), .long (Y + z.toInt64), .int (kn w 0), .int (kn h bh), .int (kn d bd)]) (rest := []) hE hml hK hI (c_Marks_add l hl0 b0 D cA f mk rw9 t (kn w 0) (kn h bh) (kn d bd) (X + pl.toInt64) (Y + z.toInt64) r hm hr9) cd_Marks_add w497 w499 ws17 hm.1 rfl rfl hl.1 (Nat.le_of_ble_eq_true rfl) d_BP_layOutItem_208 ⟨by decide, by decide⟩ ⟨by decide, by decide⟩ (fun v9 g1 H locs hp hI => ?_) (fun q9 E9 ce9 g9 H locs hp => hp.elim)
                    obtain ⟨hv, hm9, ho9⟩ := hp
                    rw [hv]
                    refine W.eq (g2 := F0 m 211 ls [.int (b2i (noteF (t).toInt64 (X + pl.toInt64) (Y + z.toInt64) (kn w 0).toInt64 (kn h bh).toInt64 (kn d bd).toInt64 r).1)]) rfl ?_
                    exact hv_zret hE hr hlocks hI hK (v := b2i (noteF (t).toInt64 (X + pl.toInt64) (Y + z.toInt64) (kn w 0).toInt64 (kn h bh).toInt64 (kn d bd).toInt64 r).1) (by first | rfl | exact b2i_nar _) ((show _ ∧ _ ∧ _ by have e9 : layC bel bw bh bd t w h d z pl X Y r = _ := if_neg (fun q9 => q9.2 ⟨by simpa [hbl] using Int32.not_le.mp c179, by simpa [hbl] using Int32.not_le.mp c187⟩); simp only [hbl, Bool.false_eq_true, if_false] at e9; rw [hbl, e9]; exact ⟨rfl, hm9, ho9⟩)) (by decide) (by decide) d_BP_layOutItem_211
            · skip
              refine lv_iconst (v := 1) hx hb d_BP_layOutItem_165 (by decide) ?_
              refine lv_goto (tgt := 170) hx hb d_BP_layOutItem_166 (by decide) ?_
              refine lv_istore (lv' := [(15, .int 1), (14, .int (kn d bd)), (13, .int (kn h bh)), (12, .int (kn w 0)), (10, .long (Y + z.toInt64)), (8, .long (X + pl.toInt64)), (0, .ref x), (1, .ref bx), (2, .ref q), (3, .int pl), (4, .long X), (6, .long Y)]) hx hb d_BP_layOutItem_170 hl (by decide) rfl (fun ls hl => ?_)
              refine lv_iload hx hb d_BP_layOutItem_172 (lv_at hl 0 rfl) ?_
              refine lv_if_ne (tgt := 190) hx hb d_BP_layOutItem_174 (by decide) (fun c174 => ?_) (fun c174 => ?_)
              · skip
                refine lv_aload_n hx hb d_BP_layOutItem_190 rfl (lv_at hl 6 rfl) ?_
                refine hv_get hE k_BP hI 4 (by decide) w48 hx0 rfl d_BP_layOutItem_191 ?_
                refine lv_aload_n hx hb d_BP_layOutItem_194 rfl (lv_at hl 8 rfl) ?_
                refine hv_getN hE k_Solid hI 0 (by decide) w187 hq rfl d_BP_layOutItem_195 ?_
                refine lv_lload hx hb d_BP_layOutItem_198 (lv_at hl 5 rfl) ?_
                refine lv_lload hx hb d_BP_layOutItem_200 (lv_at hl 4 rfl) ?_
                refine lv_iload hx hb d_BP_layOutItem_202 (lv_at hl 3 rfl) ?_
                refine lv_iload hx hb d_BP_layOutItem_204 (lv_at hl 2 rfl) ?_
                refine lv_iload hx hb d_BP_layOutItem_206 (lv_at hl 1 rfl) ?_
                refine hv_VN (As := [.int t, .long (X + pl.toInt64), .long (Y + z.toInt64), .int (kn w 0), .int (kn h bh), .int (kn d bd)]) (rest := []) hE hml hK hI (c_Marks_add l hl0 b0 D cA f mk rw9 t (kn w 0) (kn h bh) (kn d bd) (X + pl.toInt64) (Y + z.toInt64) r hm hr9) cd_Marks_add w497 w499 ws17 hm.1 rfl rfl hl.1 (Nat.le_of_ble_eq_true rfl) d_BP_layOutItem_208 ⟨by decide, by decide⟩ ⟨by decide, by decide⟩ (fun v9 g2 H locs hp hI => ?_) (fun q9 E9 ce9 g9 H locs hp => hp.elim)
                obtain ⟨hv, hm9, ho9⟩ := hp
                rw [hv]
                refine W.eq (g2 := F0 m 211 ls [.int (b2i (noteF (t).toInt64 (X + pl.toInt64) (Y + z.toInt64) (kn w 0).toInt64 (kn h bh).toInt64 (kn d bd).toInt64 r).1)]) rfl ?_
                exact hv_zret hE hr hlocks hI hK (v := b2i (noteF (t).toInt64 (X + pl.toInt64) (Y + z.toInt64) (kn w 0).toInt64 (kn h bh).toInt64 (kn d bd).toInt64 r).1) (by first | rfl | exact b2i_nar _) ((show _ ∧ _ ∧ _ by have e9 : layC bel bw bh bd t w h d z pl X Y r = _ := if_neg (fun q9 => c162 q9.1); simp only [hbl, Bool.false_eq_true, if_false] at e9; rw [hbl, e9]; exact ⟨rfl, hm9, ho9⟩)) (by decide) (by decide) d_BP_layOutItem_211
              · skip
                exact absurd c174 (by decide)
          · skip
            exact absurd (b2i_t c141) (by rw [hbl]; decide)
        · skip
          exact absurd (b2i_t c117) (by rw [hbl]; decide)
      · skip
        exact absurd (b2i_t c93) (by rw [hbl]; decide)
    · skip
      exact absurd (b2i_t c29) (by rw [hbl]; decide)
  · skip
    have hbl : bel = true := b2i_t c4
    refine lv_lload hx hb d_BP_layOutItem_7 (lv_at hl 4 rfl) ?_
    refine lv_aload_n hx hb d_BP_layOutItem_9 rfl (lv_at hl 2 rfl) ?_
    refine hv_getN hE k_Solid hI 5 (by decide) w202 hq rfl d_BP_layOutItem_10 ?_
    refine lv_i2l (v := z.toInt64) hx hb d_BP_layOutItem_13 rfl ?_
    refine lv_ladd hx hb d_BP_layOutItem_14 ?_
    refine lv_goto (tgt := 23) hx hb d_BP_layOutItem_15 (by decide) ?_
    refine lv_lstore (lv' := [(8, .long (X + z.toInt64)), (0, .ref x), (1, .ref bx), (2, .ref q), (3, .int pl), (4, .long X), (6, .long Y)]) hx hb d_BP_layOutItem_23 hl (by decide) rfl (fun ls hl => ?_)
    refine lv_aload_n hx hb d_BP_layOutItem_25 rfl (lv_at hl 2 rfl) ?_
    refine hv_getN hE k_Box hI 0 (by decide) w330 hbx rfl d_BP_layOutItem_26 ?_
    refine lv_if_eq (tgt := 55) hx hb d_BP_layOutItem_29 (by decide) (fun c29 => ?_) (fun c29 => ?_)
    · skip
      exact absurd (b2i_f c29) (by rw [hbl]; decide)
    · skip
      refine lv_lload hx hb d_BP_layOutItem_32 (lv_at hl 6 rfl) ?_
      refine lv_aload_n hx hb d_BP_layOutItem_34 rfl (lv_at hl 2 rfl) ?_
      refine hv_getN hE k_Box hI 6 (by decide) w342 hbx rfl d_BP_layOutItem_35 ?_
      refine lv_i2l (v := bh.toInt64) hx hb d_BP_layOutItem_38 rfl ?_
      refine lv_lsub hx hb d_BP_layOutItem_39 ?_
      refine lv_iload_n hx hb d_BP_layOutItem_40 rfl (lv_at hl 4 rfl) ?_
      refine lv_i2l (v := pl.toInt64) hx hb d_BP_layOutItem_41 rfl ?_
      refine lv_ladd hx hb d_BP_layOutItem_42 ?_
      refine lv_aload_n hx hb d_BP_layOutItem_43 rfl (lv_at hl 3 rfl) ?_
      refine hv_getN hE k_Solid hI 2 (by decide) w193 hq rfl d_BP_layOutItem_44 ?_
      refine hv_Sp (As := [.int h]) (rest := [.long ((Y - bh.toInt64) + pl.toInt64)]) hE hml hK hI (c_BP_known1 l hl0 b0 D cA f h) cd_BP_known1 w496 w408 rfl rfl rfl hl.1 (Nat.le_of_ble_eq_true rfl) d_BP_layOutItem_47 ⟨by decide, by decide⟩ ⟨by decide, by decide⟩ (fun H locs hI => ?_)
      refine W.eq (g2 := F0 m 50 ls [.int (kn h 0), .long ((Y - bh.toInt64) + pl.toInt64)]) rfl ?_
      refine lv_i2l (v := (kn h 0).toInt64) hx hb d_BP_layOutItem_50 rfl ?_
      refine lv_ladd hx hb d_BP_layOutItem_51 ?_
      refine lv_goto (tgt := 63) hx hb d_BP_layOutItem_52 (by decide) ?_
      refine lv_lstore (lv' := [(10, .long (((Y - bh.toInt64) + pl.toInt64) + ((kn h 0).toInt64))), (8, .long (X + z.toInt64)), (0, .ref x), (1, .ref bx), (2, .ref q), (3, .int pl), (4, .long X), (6, .long Y)]) hx hb d_BP_layOutItem_63 hl (by decide) rfl (fun ls hl => ?_)
      refine lv_aload_n hx hb d_BP_layOutItem_65 rfl (lv_at hl 4 rfl) ?_
      refine hv_getN hE k_Solid hI 4 (by decide) w199 hq rfl d_BP_layOutItem_66 ?_
      refine lv_ifnullN (tgt := 85) hx hb d_BP_layOutItem_69 (by decide) ?_
      refine lv_aload_n hx hb d_BP_layOutItem_85 rfl (lv_at hl 4 rfl) ?_
      refine hv_getN hE k_Solid hI 1 (by decide) w190 hq rfl d_BP_layOutItem_86 ?_
      refine lv_aload_n hx hb d_BP_layOutItem_89 rfl (lv_at hl 3 rfl) ?_
      refine hv_getN hE k_Box hI 0 (by decide) w330 hbx rfl d_BP_layOutItem_90 ?_
      refine lv_if_eq (tgt := 103) hx hb d_BP_layOutItem_93 (by decide) (fun c93 => ?_) (fun c93 => ?_)
      · skip
        exact absurd (b2i_f c93) (by rw [hbl]; decide)
      · skip
        refine lv_aload_n hx hb d_BP_layOutItem_96 rfl (lv_at hl 3 rfl) ?_
        refine hv_getN hE k_Box hI 5 (by decide) w340 hbx rfl d_BP_layOutItem_97 ?_
        refine lv_goto (tgt := 104) hx hb d_BP_layOutItem_100 (by decide) ?_
        refine hv_Sp (As := [.int w, .int bw]) (rest := []) hE hml hK hI (c_BP_known2 l hl0 b0 D cA f w bw) cd_BP_known2 w410 w411 rfl rfl rfl hl.1 (Nat.le_of_ble_eq_true rfl) d_BP_layOutItem_104 ⟨by decide, by decide⟩ ⟨by decide, by decide⟩ (fun H locs hI => ?_)
        refine W.eq (g2 := F0 m 107 ls [.int (kn w bw)]) rfl ?_
        refine lv_istore (lv' := [(12, .int (kn w bw)), (10, .long (((Y - bh.toInt64) + pl.toInt64) + ((kn h 0).toInt64))), (8, .long (X + z.toInt64)), (0, .ref x), (1, .ref bx), (2, .ref q), (3, .int pl), (4, .long X), (6, .long Y)]) hx hb d_BP_layOutItem_107 hl (by decide) rfl (fun ls hl => ?_)
        refine lv_aload_n hx hb d_BP_layOutItem_109 rfl (lv_at hl 5 rfl) ?_
        refine hv_getN hE k_Solid hI 2 (by decide) w193 hq rfl d_BP_layOutItem_110 ?_
        refine lv_aload_n hx hb d_BP_layOutItem_113 rfl (lv_at hl 4 rfl) ?_
        refine hv_getN hE k_Box hI 0 (by decide) w330 hbx rfl d_BP_layOutItem_114 ?_
        refine lv_if_eq (tgt := 124) hx hb d_BP_layOutItem_117 (by decide) (fun c117 => ?_) (fun c117 => ?_)
        · skip
          exact absurd (b2i_f c117) (by rw [hbl]; decide)
        · skip
          refine lv_iconst (v := 0) hx hb d_BP_layOutItem_120 (by decide) ?_
          refine lv_goto (tgt := 128) hx hb d_BP_layOutItem_121 (by decide) ?_
          refine hv_Sp (As := [.int h, .int 0]) (rest := []) hE hml hK hI (c_BP_known2 l hl0 b0 D cA f h 0) cd_BP_known2 w410 w411 rfl rfl rfl hl.1 (Nat.le_of_ble_eq_true rfl) d_BP_layOutItem_128 ⟨by decide, by decide⟩ ⟨by decide, by decide⟩ (fun H locs hI => ?_)
          refine W.eq (g2 := F0 m 131 ls [.int (kn h 0)]) rfl ?_
          refine lv_istore (lv' := [(13, .int (kn h 0)), (12, .int (kn w bw)), (10, .long (((Y - bh.toInt64) + pl.toInt64) + ((kn h 0).toInt64))), (8, .long (X + z.toInt64)), (0, .ref x), (1, .ref bx), (2, .ref q), (3, .int pl), (4, .long X), (6, .long Y)]) hx hb d_BP_layOutItem_131 hl (by decide) rfl (fun ls hl => ?_)
          refine lv_aload_n hx hb d_BP_layOutItem_133 rfl (lv_at hl 6 rfl) ?_
          refine hv_getN hE k_Solid hI 3 (by decide) w196 hq rfl d_BP_layOutItem_134 ?_
          refine lv_aload_n hx hb d_BP_layOutItem_137 rfl (lv_at hl 5 rfl) ?_
          refine hv_getN hE k_Box hI 0 (by decide) w330 hbx rfl d_BP_layOutItem_138 ?_
          refine lv_if_eq (tgt := 148) hx hb d_BP_layOutItem_141 (by decide) (fun c141 => ?_) (fun c141 => ?_)
          · skip
            exact absurd (b2i_f c141) (by rw [hbl]; decide)
          · skip
            refine lv_iconst (v := 0) hx hb d_BP_layOutItem_144 (by decide) ?_
            refine lv_goto (tgt := 152) hx hb d_BP_layOutItem_145 (by decide) ?_
            refine hv_Sp (As := [.int d, .int 0]) (rest := []) hE hml hK hI (c_BP_known2 l hl0 b0 D cA f d 0) cd_BP_known2 w410 w411 rfl rfl rfl hl.1 (Nat.le_of_ble_eq_true rfl) d_BP_layOutItem_152 ⟨by decide, by decide⟩ ⟨by decide, by decide⟩ (fun H locs hI => ?_)
            refine W.eq (g2 := F0 m 155 ls [.int (kn d 0)]) rfl ?_
            refine lv_istore (lv' := [(14, .int (kn d 0)), (13, .int (kn h 0)), (12, .int (kn w bw)), (10, .long (((Y - bh.toInt64) + pl.toInt64) + ((kn h 0).toInt64))), (8, .long (X + z.toInt64)), (0, .ref x), (1, .ref bx), (2, .ref q), (3, .int pl), (4, .long X), (6, .long Y)]) hx hb d_BP_layOutItem_155 hl (by decide) rfl (fun ls hl => ?_)
            refine lv_aload_n hx hb d_BP_layOutItem_157 rfl (lv_at hl 7 rfl) ?_
            refine hv_getN hE k_Solid hI 0 (by decide) w187 hq rfl d_BP_layOutItem_158 ?_
            refine lv_iconst (v := (-1)) hx hb d_BP_layOutItem_161 (by decide) ?_
            refine lv_icmp_eq (tgt := 169) hx hb d_BP_layOutItem_162 (by decide) (fun c162 => ?_) (fun c162 => ?_)
            · skip
              refine lv_iconst (v := 0) hx hb d_BP_layOutItem_169 (by decide) ?_
              refine lv_istore (lv' := [(15, .int 0), (14, .int (kn d 0)), (13, .int (kn h 0)), (12, .int (kn w bw)), (10, .long (((Y - bh.toInt64) + pl.toInt64) + ((kn h 0).toInt64))), (8, .long (X + z.toInt64)), (0, .ref x), (1, .ref bx), (2, .ref q), (3, .int pl), (4, .long X), (6, .long Y)]) hx hb d_BP_layOutItem_170 hl (by decide) rfl (fun ls hl => ?_)
              refine lv_iload hx hb d_BP_layOutItem_172 (lv_at hl 0 rfl) ?_
              refine lv_if_ne (tgt := 190) hx hb d_BP_layOutItem_174 (by decide) (fun c174 => ?_) (fun c174 => ?_)
              · skip
                exact absurd rfl c174
              · skip
                refine lv_iload hx hb d_BP_layOutItem_177 (lv_at hl 3 rfl) ?_
                refine lv_if_le (tgt := 212) hx hb d_BP_layOutItem_179 (by decide) (fun c179 => ?_) (fun c179 => ?_)
                · skip
                  refine lv_iconst (v := 1) hx hb d_BP_layOutItem_212 (by decide) ?_
                  exact hv_zret hE hr hlocks hI hK (v := 1) (by first | rfl | exact b2i_nar _) ((show _ ∧ _ ∧ _ by rw [show layC bel bw bh bd t w h d z pl X Y r = (true, r) from if_pos ⟨c162, fun q9 => Int32.not_lt.mpr c179 (by simpa [hbl] using q9.1)⟩]; exact ⟨rfl, hm, fun _ _ _ => rfl⟩)) (by decide) (by decide) d_BP_layOutItem_213
                · skip
                  refine lv_iload hx hb d_BP_layOutItem_182 (lv_at hl 2 rfl) ?_
                  refine lv_iload hx hb d_BP_layOutItem_184 (lv_at hl 1 rfl) ?_
                  refine lv_iadd hx hb d_BP_layOutItem_186 ?_
                  refine lv_if_le (tgt := 212) hx hb d_BP_layOutItem_187 (by decide) (fun c187 => ?_) (fun c187 => ?_)
                  · skip
                    refine lv_iconst (v := 1) hx hb d_BP_layOutItem_212 (by decide) ?_
                    exact hv_zret hE hr hlocks hI hK (v := 1) (by first | rfl | exact b2i_nar _) ((show _ ∧ _ ∧ _ by rw [show layC bel bw bh bd t w h d z pl X Y r = (true, r) from if_pos ⟨c162, fun q9 => Int32.not_lt.mpr c187 (by simpa [hbl] using q9.2)⟩]; exact ⟨rfl, hm, fun _ _ _ => rfl⟩)) (by decide) (by decide) d_BP_layOutItem_213
                  · skip
                    refine lv_aload_n hx hb d_BP_layOutItem_190 rfl (lv_at hl 6 rfl) ?_
                    refine hv_get hE k_BP hI 4 (by decide) w48 hx0 rfl d_BP_layOutItem_191 ?_
                    refine lv_aload_n hx hb d_BP_layOutItem_194 rfl (lv_at hl 8 rfl) ?_
                    refine hv_getN hE k_Solid hI 0 (by decide) w187 hq rfl d_BP_layOutItem_195 ?_
                    refine lv_lload hx hb d_BP_layOutItem_198 (lv_at hl 5 rfl) ?_
                    refine lv_lload hx hb d_BP_layOutItem_200 (lv_at hl 4 rfl) ?_
                    refine lv_iload hx hb d_BP_layOutItem_202 (lv_at hl 3 rfl) ?_
                    refine lv_iload hx hb d_BP_layOutItem_204 (lv_at hl 2 rfl) ?_
                    refine lv_iload hx hb d_BP_layOutItem_206 (lv_at hl 1 rfl) ?_
                    refine hv_VN (As := [.int t, .long (X + z.toInt64), .long (((Y - bh.toInt64) + pl.toInt64) + ((kn h 0).toInt64)), .int (kn w bw), .int (kn h 0), .int (kn d 0)]) (rest := []) hE hml hK hI (c_Marks_add l hl0 b0 D cA f mk rw9 t (kn w bw) (kn h 0) (kn d 0) (X + z.toInt64) (((Y - bh.toInt64) + pl.toInt64) + ((kn h 0).toInt64)) r hm hr9) cd_Marks_add w497 w499 ws17 hm.1 rfl rfl hl.1 (Nat.le_of_ble_eq_true rfl) d_BP_layOutItem_208 ⟨by decide, by decide⟩ ⟨by decide, by decide⟩ (fun v9 g3 H locs hp hI => ?_) (fun q9 E9 ce9 g9 H locs hp => hp.elim)
                    obtain ⟨hv, hm9, ho9⟩ := hp
                    rw [hv]
                    refine W.eq (g2 := F0 m 211 ls [.int (b2i (noteF (t).toInt64 (X + z.toInt64) (((Y - bh.toInt64) + pl.toInt64) + ((kn h 0).toInt64)) (kn w bw).toInt64 (kn h 0).toInt64 (kn d 0).toInt64 r).1)]) rfl ?_
                    exact hv_zret hE hr hlocks hI hK (v := b2i (noteF (t).toInt64 (X + z.toInt64) (((Y - bh.toInt64) + pl.toInt64) + ((kn h 0).toInt64)) (kn w bw).toInt64 (kn h 0).toInt64 (kn d 0).toInt64 r).1) (by first | rfl | exact b2i_nar _) ((show _ ∧ _ ∧ _ by have e9 : layC bel bw bh bd t w h d z pl X Y r = _ := if_neg (fun q9 => q9.2 ⟨by simpa [hbl] using Int32.not_le.mp c179, by simpa [hbl] using Int32.not_le.mp c187⟩); simp only [hbl, if_true] at e9; rw [hbl, e9]; exact ⟨rfl, hm9, ho9⟩)) (by decide) (by decide) d_BP_layOutItem_211
            · skip
              refine lv_iconst (v := 1) hx hb d_BP_layOutItem_165 (by decide) ?_
              refine lv_goto (tgt := 170) hx hb d_BP_layOutItem_166 (by decide) ?_
              refine lv_istore (lv' := [(15, .int 1), (14, .int (kn d 0)), (13, .int (kn h 0)), (12, .int (kn w bw)), (10, .long (((Y - bh.toInt64) + pl.toInt64) + ((kn h 0).toInt64))), (8, .long (X + z.toInt64)), (0, .ref x), (1, .ref bx), (2, .ref q), (3, .int pl), (4, .long X), (6, .long Y)]) hx hb d_BP_layOutItem_170 hl (by decide) rfl (fun ls hl => ?_)
              refine lv_iload hx hb d_BP_layOutItem_172 (lv_at hl 0 rfl) ?_
              refine lv_if_ne (tgt := 190) hx hb d_BP_layOutItem_174 (by decide) (fun c174 => ?_) (fun c174 => ?_)
              · skip
                refine lv_aload_n hx hb d_BP_layOutItem_190 rfl (lv_at hl 6 rfl) ?_
                refine hv_get hE k_BP hI 4 (by decide) w48 hx0 rfl d_BP_layOutItem_191 ?_
                refine lv_aload_n hx hb d_BP_layOutItem_194 rfl (lv_at hl 8 rfl) ?_
                refine hv_getN hE k_Solid hI 0 (by decide) w187 hq rfl d_BP_layOutItem_195 ?_
                refine lv_lload hx hb d_BP_layOutItem_198 (lv_at hl 5 rfl) ?_
                refine lv_lload hx hb d_BP_layOutItem_200 (lv_at hl 4 rfl) ?_
                refine lv_iload hx hb d_BP_layOutItem_202 (lv_at hl 3 rfl) ?_
                refine lv_iload hx hb d_BP_layOutItem_204 (lv_at hl 2 rfl) ?_
                refine lv_iload hx hb d_BP_layOutItem_206 (lv_at hl 1 rfl) ?_
                refine hv_VN (As := [.int t, .long (X + z.toInt64), .long (((Y - bh.toInt64) + pl.toInt64) + ((kn h 0).toInt64)), .int (kn w bw), .int (kn h 0), .int (kn d 0)]) (rest := []) hE hml hK hI (c_Marks_add l hl0 b0 D cA f mk rw9 t (kn w bw) (kn h 0) (kn d 0) (X + z.toInt64) (((Y - bh.toInt64) + pl.toInt64) + ((kn h 0).toInt64)) r hm hr9) cd_Marks_add w497 w499 ws17 hm.1 rfl rfl hl.1 (Nat.le_of_ble_eq_true rfl) d_BP_layOutItem_208 ⟨by decide, by decide⟩ ⟨by decide, by decide⟩ (fun v9 g4 H locs hp hI => ?_) (fun q9 E9 ce9 g9 H locs hp => hp.elim)
                obtain ⟨hv, hm9, ho9⟩ := hp
                rw [hv]
                refine W.eq (g2 := F0 m 211 ls [.int (b2i (noteF (t).toInt64 (X + z.toInt64) (((Y - bh.toInt64) + pl.toInt64) + ((kn h 0).toInt64)) (kn w bw).toInt64 (kn h 0).toInt64 (kn d 0).toInt64 r).1)]) rfl ?_
                exact hv_zret hE hr hlocks hI hK (v := b2i (noteF (t).toInt64 (X + z.toInt64) (((Y - bh.toInt64) + pl.toInt64) + ((kn h 0).toInt64)) (kn w bw).toInt64 (kn h 0).toInt64 (kn d 0).toInt64 r).1) (by first | rfl | exact b2i_nar _) ((show _ ∧ _ ∧ _ by have e9 : layC bel bw bh bd t w h d z pl X Y r = _ := if_neg (fun q9 => c162 q9.1); simp only [hbl, if_true] at e9; rw [hbl, e9]; exact ⟨rfl, hm9, ho9⟩)) (by decide) (by decide) d_BP_layOutItem_211
              · skip
                exact absurd c174 (by decide)

set_option maxHeartbeats 4000000 in
set_option maxRecDepth 100000 in
theorem c_BP_layOutItemB (l : Launch) (hl0 : l.stackTraces = false) (b0 : Nat) (D : va_G) (cA : Nat → ClassId) (f : hv_M) (x la ma mk n bn rw9 bx ca pa q qi lv9 : Nat) (bel : Bool) (dp al bw bh bd ex od to ov t w h d z pl : Int32) (X Y : Int64) (r : Mk) (rb : Bool) (Pg : hv_M → Prop) (hx0 : f x = some (.inr (0, [.ref la, .int (nI n), .ref ma, .int (nI bn), .ref mk]))) (hbx : f bx = some (.inr (1, [.int (b2i bel), .ref ca, .ref pa, .int dp, .int al, .int bw, .int bh, .int bd, .int ex, .int od, .int to, .int ov]))) (hm : mkAt cA f mk rw9 r) (hr9 : r.2 ≤ 1000) (hq : f q = some (.inr (2, [.int t, .int w, .int h, .int d, .ref qi, .int z]))) (hlv : 2 ≤ lv9) (hrec : hv_Met l y_BP_layOut [Cond.code y_BP_layOut b_BP_layOut 9 (some FieldType.boolean)] (RM lv9 0 0) b0 (Fa D cA) D CL [.ref x, .ref qi, .long (if bel = true then X + z.toInt64 else X + pl.toInt64), .long (if bel = true then Y - bh.toInt64 + pl.toInt64 + (kn h 0).toInt64 else Y + z.toInt64)] f (fun v g => v = some (.int (b2i rb)) ∧ Pg g) NX) : hv_Met l y_BP_layOutItem [Cond.code y_BP_layOutItem b_BP_layOutItem 16 (some FieldType.boolean)] (RM (lv9 + 1) 0 0) b0 (Fa D cA) D CL [.ref x, .ref bx, .ref q, .int pl, .long X, .long Y] f (fun v g => v = some (.int (b2i rb)) ∧ Pg g) (NX) := by
  refine hv_Met.of (own := "BoxPacker") (by decide) rfl (Nat.le_of_ble_eq_true rfl) ?_
  intro p e s m below meth c hE hml hout hr hlocks hname hK hI ls hl
  have hl : lv_has ls 16 [(0, .ref x), (1, .ref bx), (2, .ref q), (3, .int pl), (4, .long X), (6, .long Y)] := hl
  obtain ⟨hx, hb, hown, hts, hVK⟩ := id hE
  refine lv_aload_n hx hb d_BP_layOutItem_0 rfl (lv_at hl 1 rfl) ?_
  refine hv_getN hE k_Box hI 0 (by decide) w330 hbx rfl d_BP_layOutItem_1 ?_
  refine lv_if_eq (tgt := 18) hx hb d_BP_layOutItem_4 (by decide) (fun c4 => ?_) (fun c4 => ?_)
  · skip
    have hbl : bel = false := b2i_f c4
    refine lv_lload hx hb d_BP_layOutItem_18 (lv_at hl 4 rfl) ?_
    refine lv_iload_n hx hb d_BP_layOutItem_20 rfl (lv_at hl 3 rfl) ?_
    refine lv_i2l (v := pl.toInt64) hx hb d_BP_layOutItem_21 rfl ?_
    refine lv_ladd hx hb d_BP_layOutItem_22 ?_
    refine lv_lstore (lv' := [(8, .long (X + pl.toInt64)), (0, .ref x), (1, .ref bx), (2, .ref q), (3, .int pl), (4, .long X), (6, .long Y)]) hx hb d_BP_layOutItem_23 hl (by decide) rfl (fun ls hl => ?_)
    refine lv_aload_n hx hb d_BP_layOutItem_25 rfl (lv_at hl 2 rfl) ?_
    refine hv_getN hE k_Box hI 0 (by decide) w330 hbx rfl d_BP_layOutItem_26 ?_
    refine lv_if_eq (tgt := 55) hx hb d_BP_layOutItem_29 (by decide) (fun c29 => ?_) (fun c29 => ?_)
    · skip
      refine lv_lload hx hb d_BP_layOutItem_55 (lv_at hl 6 rfl) ?_
      refine lv_aload_n hx hb d_BP_layOutItem_57 rfl (lv_at hl 3 rfl) ?_
      refine hv_getN hE k_Solid hI 5 (by decide) w202 hq rfl d_BP_layOutItem_58 ?_
      refine lv_i2l (v := z.toInt64) hx hb d_BP_layOutItem_61 rfl ?_
      refine lv_ladd hx hb d_BP_layOutItem_62 ?_
      refine lv_lstore (lv' := [(10, .long (Y + z.toInt64)), (8, .long (X + pl.toInt64)), (0, .ref x), (1, .ref bx), (2, .ref q), (3, .int pl), (4, .long X), (6, .long Y)]) hx hb d_BP_layOutItem_63 hl (by decide) rfl (fun ls hl => ?_)
      refine lv_aload_n hx hb d_BP_layOutItem_65 rfl (lv_at hl 4 rfl) ?_
      refine hv_getN hE k_Solid hI 4 (by decide) w199 hq rfl d_BP_layOutItem_66 ?_
      refine lv_ifnull hx hb d_BP_layOutItem_69 ?_
      refine lv_aload_n hx hb d_BP_layOutItem_72 rfl (lv_at hl 2 rfl) ?_
      refine lv_aload_n hx hb d_BP_layOutItem_73 rfl (lv_at hl 4 rfl) ?_
      refine hv_getN hE k_Solid hI 4 (by decide) w199 hq rfl d_BP_layOutItem_74 ?_
      refine lv_lload hx hb d_BP_layOutItem_77 (lv_at hl 1 rfl) ?_
      refine lv_lload hx hb d_BP_layOutItem_79 (lv_at hl 0 rfl) ?_
      have hrec9 := hrec
      simp only [hbl, Bool.false_eq_true, if_false] at hrec9
      refine hv_V (As := [.ref qi, .long (X + pl.toInt64), .long (Y + z.toInt64)]) (rest := []) hE hml hK hI hrec9 cd_BP_layOut w488 w490 ws15 hx0 rfl rfl hl.1 (Nat.le_of_ble_eq_true rfl) d_BP_layOutItem_81 ⟨by first | (show 10 + _ + 1 ≤ 10 + _; omega) | (show 8 + (_ + 11) + (200 + 40 * _) ≤ 200 + 40 * _; omega), by first | (show 10 + _ + 1 ≤ 10 + _; omega) | (show 8 + (_ + 11) + (200 + 40 * _) ≤ 200 + 40 * _; omega)⟩ ⟨by exact Nat.le_refl _, by exact Nat.le_refl _⟩ (fun v9 g1 H locs hp hI => ?_) (fun q9 E9 ce9 g9 H locs hp => hp.elim)
      obtain ⟨hv, hp9⟩ := hp
      rw [hv]
      refine W.eq (g2 := F0 m 84 ls [.int (b2i rb)]) rfl ?_
      exact hv_zret hE hr hlocks hI hK (v := b2i rb) (by first | rfl | exact b2i_nar _) (⟨rfl, hp9⟩) (by exact Nat.le_refl _) (by exact Nat.le_refl _) d_BP_layOutItem_84
    · skip
      exact absurd (b2i_t c29) (by rw [hbl]; decide)
  · skip
    have hbl : bel = true := b2i_t c4
    refine lv_lload hx hb d_BP_layOutItem_7 (lv_at hl 4 rfl) ?_
    refine lv_aload_n hx hb d_BP_layOutItem_9 rfl (lv_at hl 2 rfl) ?_
    refine hv_getN hE k_Solid hI 5 (by decide) w202 hq rfl d_BP_layOutItem_10 ?_
    refine lv_i2l (v := z.toInt64) hx hb d_BP_layOutItem_13 rfl ?_
    refine lv_ladd hx hb d_BP_layOutItem_14 ?_
    refine lv_goto (tgt := 23) hx hb d_BP_layOutItem_15 (by decide) ?_
    refine lv_lstore (lv' := [(8, .long (X + z.toInt64)), (0, .ref x), (1, .ref bx), (2, .ref q), (3, .int pl), (4, .long X), (6, .long Y)]) hx hb d_BP_layOutItem_23 hl (by decide) rfl (fun ls hl => ?_)
    refine lv_aload_n hx hb d_BP_layOutItem_25 rfl (lv_at hl 2 rfl) ?_
    refine hv_getN hE k_Box hI 0 (by decide) w330 hbx rfl d_BP_layOutItem_26 ?_
    refine lv_if_eq (tgt := 55) hx hb d_BP_layOutItem_29 (by decide) (fun c29 => ?_) (fun c29 => ?_)
    · skip
      exact absurd (b2i_f c29) (by rw [hbl]; decide)
    · skip
      refine lv_lload hx hb d_BP_layOutItem_32 (lv_at hl 6 rfl) ?_
      refine lv_aload_n hx hb d_BP_layOutItem_34 rfl (lv_at hl 2 rfl) ?_
      refine hv_getN hE k_Box hI 6 (by decide) w342 hbx rfl d_BP_layOutItem_35 ?_
      refine lv_i2l (v := bh.toInt64) hx hb d_BP_layOutItem_38 rfl ?_
      refine lv_lsub hx hb d_BP_layOutItem_39 ?_
      refine lv_iload_n hx hb d_BP_layOutItem_40 rfl (lv_at hl 4 rfl) ?_
      refine lv_i2l (v := pl.toInt64) hx hb d_BP_layOutItem_41 rfl ?_
      refine lv_ladd hx hb d_BP_layOutItem_42 ?_
      refine lv_aload_n hx hb d_BP_layOutItem_43 rfl (lv_at hl 3 rfl) ?_
      refine hv_getN hE k_Solid hI 2 (by decide) w193 hq rfl d_BP_layOutItem_44 ?_
      refine hv_Sp (As := [.int h]) (rest := [.long ((Y - bh.toInt64) + pl.toInt64)]) hE hml hK hI (c_BP_known1 l hl0 b0 D cA f h) cd_BP_known1 w496 w408 rfl rfl rfl hl.1 (Nat.le_of_ble_eq_true rfl) d_BP_layOutItem_47 ⟨by first | (show 10 + _ + 1 ≤ 10 + _; omega) | (show 8 + (_ + 11) + (200 + 40 * _) ≤ 200 + 40 * _; omega), by first | (show 10 + _ + 1 ≤ 10 + _; omega) | (show 8 + (_ + 11) + (200 + 40 * _) ≤ 200 + 40 * _; omega)⟩ ⟨by exact Nat.le_refl _, by exact Nat.le_refl _⟩ (fun H locs hI => ?_)
      refine W.eq (g2 := F0 m 50 ls [.int (kn h 0), .long ((Y - bh.toInt64) + pl.toInt64)]) rfl ?_
      refine lv_i2l (v := (kn h 0).toInt64) hx hb d_BP_layOutItem_50 rfl ?_
      refine lv_ladd hx hb d_BP_layOutItem_51 ?_
      refine lv_goto (tgt := 63) hx hb d_BP_layOutItem_52 (by decide) ?_
      refine lv_lstore (lv' := [(10, .long (((Y - bh.toInt64) + pl.toInt64) + ((kn h 0).toInt64))), (8, .long (X + z.toInt64)), (0, .ref x), (1, .ref bx), (2, .ref q), (3, .int pl), (4, .long X), (6, .long Y)]) hx hb d_BP_layOutItem_63 hl (by decide) rfl (fun ls hl => ?_)
      refine lv_aload_n hx hb d_BP_layOutItem_65 rfl (lv_at hl 4 rfl) ?_
      refine hv_getN hE k_Solid hI 4 (by decide) w199 hq rfl d_BP_layOutItem_66 ?_
      refine lv_ifnull hx hb d_BP_layOutItem_69 ?_
      refine lv_aload_n hx hb d_BP_layOutItem_72 rfl (lv_at hl 2 rfl) ?_
      refine lv_aload_n hx hb d_BP_layOutItem_73 rfl (lv_at hl 4 rfl) ?_
      refine hv_getN hE k_Solid hI 4 (by decide) w199 hq rfl d_BP_layOutItem_74 ?_
      refine lv_lload hx hb d_BP_layOutItem_77 (lv_at hl 1 rfl) ?_
      refine lv_lload hx hb d_BP_layOutItem_79 (lv_at hl 0 rfl) ?_
      have hrec9 := hrec
      simp only [hbl, if_true] at hrec9
      refine hv_V (As := [.ref qi, .long (X + z.toInt64), .long (((Y - bh.toInt64) + pl.toInt64) + ((kn h 0).toInt64))]) (rest := []) hE hml hK hI hrec9 cd_BP_layOut w488 w490 ws15 hx0 rfl rfl hl.1 (Nat.le_of_ble_eq_true rfl) d_BP_layOutItem_81 ⟨by first | (show 10 + _ + 1 ≤ 10 + _; omega) | (show 8 + (_ + 11) + (200 + 40 * _) ≤ 200 + 40 * _; omega), by first | (show 10 + _ + 1 ≤ 10 + _; omega) | (show 8 + (_ + 11) + (200 + 40 * _) ≤ 200 + 40 * _; omega)⟩ ⟨by exact Nat.le_refl _, by exact Nat.le_refl _⟩ (fun v9 g2 H locs hp hI => ?_) (fun q9 E9 ce9 g9 H locs hp => hp.elim)
      obtain ⟨hv, hp9⟩ := hp
      rw [hv]
      refine W.eq (g2 := F0 m 84 ls [.int (b2i rb)]) rfl ?_
      exact hv_zret hE hr hlocks hI hK (v := b2i rb) (by first | rfl | exact b2i_nar _) (⟨rfl, hp9⟩) (by exact Nat.le_refl _) (by exact Nat.le_refl _) d_BP_layOutItem_84
end
section
/-! ===== what holds of the world ===== -/
def szI (x : Int32) : Prop := sz x.toInt64 = true
/-- the item k is one that can be added when there are c boxes -/
def itV (V : Wd) (c k : Nat) : Prop :=
  (wK V k = 0 ∧ ¬ wN V k 0 < 0 ∧ szI (wN V k 1) ∧ szI (wN V k 2) ∧ szI (wN V k 3)) ∨
  (wK V k = 1 ∧ szr (wN V k 0) = true ∧ szr (wN V k 1) = true ∧ szr (wN V k 2) = true) ∨
  (wK V k = 2 ∧ okGlue (wN V k 0) (wN V k 1) (wN V k 2) (wN V k 3) (wN V k 4) = true) ∨
  (wK V k = 3 ∧ szI (wN V k 0) ∧ wN V k 1 = 0 ∧ wN V k 2 = 0 ∧ wN V k 3 = 0 ∧ wN V k 4 = 0) ∨
  (wK V k = 4 ∧ szI (wN V k 1) ∧ wI V k < c ∧ wN V k 0 = nI (wI V k))
def bxV (V : Wd) (b : Nat) : Prop :=
  wF V b ≤ wF V (b + 1) ∧ wF V (b + 1) - wF V b ≤ 100 ∧ szI (wA V 0 b) ∧ szI (wA V 1 b) ∧ szI (wA V 2 b) ∧ szI (wA V 3 b) ∧ szI (wA V 5 b) ∧ 0 ≤ (wA V 5 b).toInt ∧
  (1 ≤ (wA V 8 b).toInt ∧ (wA V 8 b).toInt ≤ 10) ∧ (0 ≤ (wA V 9 b).toInt ∧ (wA V 9 b).toInt ≤ 1000000) ∧ wA V 6 b = badF (wA V 3 b) (wA V 4 b) (wA V 5 b) (wA V 7 b) ∧
  ∀ i, i < wF V (b + 1) - wF V b → itV V b (wF V b + i) ∧ (wK V (wF V b + i) = 4 → (wA V 8 (wI V (wF V b + i))).toInt < (wA V 8 b).toInt)
theorem szI_iff {x : Int32} : szI x ↔ -1073741823 ≤ x.toInt ∧ x.toInt ≤ 1073741823 := by
  simp only [szI, sz, Bool.and_eq_true, decide_eq_true_eq, Int64.le_iff_toInt_le, Int32.toInt_toInt64]
  constructor <;> intro h <;> simpa using h
theorem sz_iff {x : Int64} : sz x = true ↔ -1073741823 ≤ x.toInt ∧ x.toInt ≤ 1073741823 := by
  simp only [sz, Bool.and_eq_true, decide_eq_true_eq, Int64.le_iff_toInt_le]
  constructor <;> intro h <;> simpa using h
theorem szI_run {x : Int32} (h : szI x) : ¬ x = -1073741824 := fun q => by
  subst q
  exact absurd (szI_iff.mp h).1 (by decide)
theorem szI_kn {x r : Int32} (h : szI x) : kn x r = x := if_neg (szI_run h)
theorem szr_or {x : Int32} (h : szr x = true) : x = -1073741824 ∨ szI x := by
  simp only [szr, Bool.or_eq_true, decide_eq_true_eq] at h
  exact h
theorem i0_64 : (0 : Int32).toInt64 = 0 := by decide
/-! ===== laying: an item is laid as the box's own cell says ===== -/
theorem noteF_le {t x y w h d : Int64} {r : Mk} (hr : r.2 ≤ 1000) : (noteF t x y w h d r).2.2 ≤ 1000 := by
  rw [noteF]
  by_cases q : r.2 = 1000
  · rw [if_pos q]; exact hr
  · rw [if_neg q]; show r.2 + 1 ≤ 1000; omega
theorem layI_le {V : Wd} {go : Nat → Int64 → Int64 → Mk → Bool × Mk} (hg : ∀ b x y r, r.2 ≤ 1000 → (go b x y r).2.2 ≤ 1000) {b : Nat} {x y : Int64} {i : Nat} {r : Mk} (hr : r.2 ≤ 1000) : (layI V go b x y i r).2.2 ≤ 1000 := by
  rw [layI]
  split
  · exact noteF_le hr
  · split
    · split
      · exact hr
      · exact noteF_le hr
    · split
      · split
        · exact hg _ _ _ _ hr
        · exact hg _ _ _ _ hr
      · exact hr
theorem layL_le {it : Nat → Mk → Bool × Mk} (hi : ∀ i r, r.2 ≤ 1000 → (it i r).2.2 ≤ 1000) : ∀ (k i : Nat) (r : Mk), r.2 ≤ 1000 → (layL it k i r).2.2 ≤ 1000
  | 0, _, r, hr => hr
  | k + 1, i, r, hr => by
    rw [layL]
    split
    · exact layL_le hi k (i + 1) _ (hi i r hr)
    · exact hi i r hr
theorem layF_le (V : Wd) : ∀ (n b : Nat) (x y : Int64) (r : Mk), r.2 ≤ 1000 → (layF V n b x y r).2.2 ≤ 1000
  | 0, _, _, _, _, hr => hr
  | n + 1, b, x, y, r, hr => layL_le (fun i r9 h9 => layI_le (fun b x y r h => layF_le V n b x y r h) h9) _ _ _ hr
theorem layI_space {V : Wd} {ad : Nat → Nat} {go : Nat → Int64 → Int64 → Mk → Bool × Mk} {b i : Nat} {x y : Int64} {r : Mk} {z : Int32 × Int32 × Int32 × Int32 × Int32} (h : itO V ad (wF V b + i) = .inr z) : layI V go b x y i r = (true, r) := by
  rw [itO] at h
  split at h
  · cases h
  · rename_i h0
    split at h
    · cases h
    · rename_i h1
      split at h
      · cases h
      · rename_i h4
        rw [layI, if_neg h0, if_neg h1, if_neg h4]
theorem layI_box {V : Wd} {ad : Nat → Nat} {go : Nat → Int64 → Int64 → Mk → Bool × Mk} {b i : Nat} {x y : Int64} {r : Mk} {t w h d z p : Int32} {q : Nat} (hp : p.toInt64 = plF V b i) (hsz : szI (wA V 1 (wI V (wF V b + i)))) (e : itO V ad (wF V b + i) = .inl (t, w, h, d, some q, z)) :
    wK V (wF V b + i) = 4 ∧ q = ad (wI V (wF V b + i)) ∧ layI V go b x y i r = go (wI V (wF V b + i)) (if wB V b = true then x + z.toInt64 else x + p.toInt64) (if wB V b = true then y - (wA V 1 b).toInt64 + p.toInt64 + (kn h 0).toInt64 else y + z.toInt64) r := by
  rw [itO] at e
  split at e
  · simp at e
  · rename_i h0
    split at e
    · simp at e
    · rename_i h1
      split at e
      · rename_i h4
        simp only [Sum.inl.injEq, Prod.mk.injEq, Option.some.injEq] at e
        obtain ⟨-, -, e3, -, e5, e6⟩ := e
        refine ⟨h4, e5.symm, ?_⟩
        subst e3 e6
        rw [layI, if_neg h0, if_neg h1, if_pos h4, szI_kn hsz, hp]
        by_cases hb : wB V b = true
        · simp only [hb, if_true, mxF, tpF]
        · simp only [hb, if_false, mxF, tpF, Bool.false_eq_true]
      · cases e
theorem i_add_pos {h d : Int32} (h1 : szI h) (h2 : szI d) : (0 < h + d) ↔ ¬ (h.toInt64 + d.toInt64 ≤ 0) := by
  have a1 := szI_iff.mp h1
  have a2 := szI_iff.mp h2
  rw [Int32.lt_iff_toInt_lt, Int64.le_iff_toInt_le, Int32.toInt_add, Int64.toInt_add, Int32.toInt_toInt64, Int32.toInt_toInt64, show (0 : Int32).toInt = 0 by decide, show (0 : Int64).toInt = 0 by decide, Int.bmod_eq_of_le (by omega) (by omega), Int.bmod_eq_of_le (by omega) (by omega)]
  omega
theorem i_pos {w : Int32} : (0 < w) ↔ ¬ (w.toInt64 ≤ 0) := by
  rw [Int32.lt_iff_toInt_lt, Int64.le_iff_toInt_le, Int32.toInt_toInt64, show (0 : Int32).toInt = 0 by decide, show (0 : Int64).toInt = 0 by decide]
  omega
theorem rdF_0 {V : Wd} {b k : Nat} : rdF V b k 0 = (kn (wN V k 0) (if wB V b = true then wA V 0 b else 0)).toInt64 := by
  rw [rdF, kn]
  by_cases h : wN V k 0 = -1073741824
  · by_cases hb : wB V b = true <;> simp [h, hb, i0_64]
  · simp [h]
theorem rdF_1 {V : Wd} {b k : Nat} : rdF V b k 1 = (kn (wN V k 1) (if wB V b = true then 0 else wA V 1 b)).toInt64 := by
  rw [rdF, kn]
  by_cases h : wN V k 1 = -1073741824
  · by_cases hb : wB V b = true <;> simp [h, hb, i0_64]
  · simp [h]
theorem rdF_2 {V : Wd} {b k : Nat} : rdF V b k 2 = (kn (wN V k 2) (if wB V b = true then 0 else wA V 2 b)).toInt64 := by
  rw [rdF, kn]
  by_cases h : wN V k 2 = -1073741824
  · by_cases hb : wB V b = true <;> simp [h, hb, i0_64]
  · simp [h]
theorem szI_0 : szI 0 := by show sz (0 : Int32).toInt64 = true; decide
theorem szr_kn {x r : Int32} (h : szr x = true) (hr : szI r) : szI (kn x r) := by
  rw [kn]
  split
  · exact hr
  · rcases szr_or h with q | q
    · rename_i n; exact absurd q n
    · exact q
theorem layI_none {V : Wd} {ad : Nat → Nat} {go : Nat → Int64 → Int64 → Mk → Bool × Mk} {b c i : Nat} {x y : Int64} {r : Mk} {t w h d z p : Int32} (hp : p.toInt64 = plF V b i) (hv : itV V c (wF V b + i)) (s1 : szI (wA V 1 b)) (s2 : szI (wA V 2 b)) (e : itO V ad (wF V b + i) = .inl (t, w, h, d, none, z)) :
    layI V go b x y i r = layC (wB V b) (wA V 0 b) (wA V 1 b) (wA V 2 b) t w h d z p x y r := by
  rcases hv with ⟨k0, g0, g1, g2, g3⟩ | ⟨k0, g0, g1, g2⟩ | ⟨k0, -⟩ | ⟨k0, -⟩ | ⟨k0, -⟩
  · rw [itO, if_pos k0] at e
    simp only [Sum.inl.injEq, Prod.mk.injEq] at e
    obtain ⟨e1, e2, e3, e4, -, e6⟩ := e
    subst e1 e2 e3 e4 e6
    have ht : ¬ wN V (wF V b + i) 0 = -1 := fun q => g0 (by rw [q]; decide)
    by_cases hb : wB V b = true
    · simp [layI, layC, k0, ht, hb, mxF, tpF, szI_kn g1, szI_kn g2, szI_kn g3, i0_64, hp]
    · simp [layI, layC, k0, ht, hb, mxF, tpF, szI_kn g1, szI_kn g2, szI_kn g3, i0_64, hp]
  · have n0 : ¬ wK V (wF V b + i) = 0 := by rw [k0]; decide
    rw [itO, if_neg n0, if_pos k0] at e
    simp only [Sum.inl.injEq, Prod.mk.injEq] at e
    obtain ⟨e1, e2, e3, e4, -, e6⟩ := e
    subst e1 e2 e3 e4 e6
    rw [layI, if_neg n0, if_pos k0, layC, rdF_0, rdF_1, rdF_2]
    have z1 : szI (kn (wN V (wF V b + i) 1) (if wB V b = true then 0 else wA V 1 b)) := szr_kn g1 (by by_cases hb : wB V b = true <;> simp [hb, szI_0, s1])
    have z2 : szI (kn (wN V (wF V b + i) 2) (if wB V b = true then 0 else wA V 2 b)) := szr_kn g2 (by by_cases hb : wB V b = true <;> simp [hb, szI_0, s2])
    have hc : ∀ (a c : Prop), (a ∨ c) ↔ ((-1 : Int32) = -1 ∧ ¬ (¬ a ∧ ¬ c)) := fun a c => ⟨fun q => ⟨rfl, fun n => q.elim n.1 n.2⟩, fun q => Classical.byContradiction fun n => q.2 ⟨fun a => n (Or.inl a), fun c => n (Or.inr c)⟩⟩
    have hd := hc ((kn (wN V (wF V b + i) 0) (if wB V b = true then wA V 0 b else 0)).toInt64 ≤ 0) ((kn (wN V (wF V b + i) 1) (if wB V b = true then 0 else wA V 1 b)).toInt64 + (kn (wN V (wF V b + i) 2) (if wB V b = true then 0 else wA V 2 b)).toInt64 ≤ 0)
    rw [← i_pos, ← i_add_pos z1 z2] at hd
    have e9 : (-1 : Int32).toInt64 = -1 := by decide
    by_cases q : (kn (wN V (wF V b + i) 0) (if wB V b = true then wA V 0 b else 0)).toInt64 ≤ 0 ∨ (kn (wN V (wF V b + i) 1) (if wB V b = true then 0 else wA V 1 b)).toInt64 + (kn (wN V (wF V b + i) 2) (if wB V b = true then 0 else wA V 2 b)).toInt64 ≤ 0
    · rw [if_pos q, if_pos (hd.mp q)]
    · rw [if_neg q, if_neg (fun n => q (hd.mpr n)), e9, i0_64, hp]
      by_cases hb : wB V b = true
      · simp [hb, mxF, tpF]
      · simp [hb, mxF, tpF]
  · rw [itO, if_neg (by rw [k0]; decide), if_neg (by rw [k0]; decide), if_neg (by rw [k0]; decide)] at e; cases e
  · rw [itO, if_neg (by rw [k0]; decide), if_neg (by rw [k0]; decide), if_neg (by rw [k0]; decide)] at e; cases e
  · rw [itO, if_neg (by rw [k0]; decide), if_neg (by rw [k0]; decide), if_pos k0] at e; simp at e
end
section
/-! ===== the boxes in the picture ===== -/
abbrev boxC (V : Wd) (ca pa : Nat → Nat) (b : Nat) : va_E := .inr (1, [.int (b2i (wB V b)), .ref (ca b), .ref (pa b), .int (wA V 8 b), .int (wA V 9 b), .int (wA V 0 b), .int (wA V 1 b), .int (wA V 2 b), .int (wA V 3 b), .int (wA V 4 b), .int (wA V 5 b), .int (wA V 7 b)])
def boxR (cA : Nat → ClassId) (f : hv_M) (V : Wd) (ad ca pa : Nat → Nat) (gc : Nat → Nat → Option Nat) (gp : Nat → Nat → Int32) (b : Nat) : Prop :=
  f (ad b) = some (boxC V ca pa b) ∧ f (ca b) = some (.inl (cA 3, wF V (b + 1) - wF V b, .inr (.inr (.inr (.inr (gc b)))))) ∧ f (pa b) = some (.inl (cA 0, wF V (b + 1) - wF V b, .inl (gp b))) ∧
  itsAt f (wF V (b + 1) - wF V b) (gc b) (fun i => itO V ad (wF V b + i)) ∧ ∀ i, i < wF V (b + 1) - wF V b → (gp b i).toInt64 = plF V b i
theorem boxR.keep {cA : Nat → ClassId} {f g : hv_M} {V : Wd} {ad ca pa : Nat → Nat} {gc : Nat → Nat → Option Nat} {gp : Nat → Nat → Int32} {b : Nat} (h : boxR cA f V ad ca pa gc gp b) (h1 : g (ad b) = f (ad b)) (h2 : g (ca b) = f (ca b)) (h3 : g (pa b) = f (pa b)) (h4 : ∀ (z : Nat) (x : It), f z = some (itE x) → g z = f z) : boxR cA g V ad ca pa gc gp b :=
  ⟨by rw [h1]; exact h.1, by rw [h2]; exact h.2.1, by rw [h3]; exact h.2.2.1, h.2.2.2.1.keep h4, h.2.2.2.2⟩
theorem itE_mk (x : It) (fs : List Value) : itE x ≠ .inr (4, fs) := by
  rcases x with ⟨t, w, h, d, q, z⟩ | ⟨w, a, b, d, z⟩ <;> simp [itE]
theorem itE_bp (x : It) (fs : List Value) : itE x ≠ .inr (0, fs) := by
  rcases x with ⟨t, w, h, d, q, z⟩ | ⟨w, a, b, d, z⟩ <;> simp [itE]
/-- only the marks have changed -/
theorem boxR.marks {cA : Nat → ClassId} {f g : hv_M} {V : Wd} {ad ca pa : Nat → Nat} {gc : Nat → Nat → Option Nat} {gp : Nat → Nat → Int32} {b mk rw9 : Nat} {r : Mk} (h : boxR cA f V ad ca pa gc gp b) (hm : mkAt cA f mk rw9 r) (ho : ∀ z, z ≠ mk → z ≠ rw9 → g z = f z) : boxR cA g V ad ca pa gc gp b :=
  h.keep (ho _ (hv_ne h.1 hm.1 (by simp)) (hv_ne h.1 hm.2 (by simp))) (ho _ (hv_ne h.2.1 hm.1 (by simp)) (hv_ne h.2.1 hm.2 (by simp))) (ho _ (hv_ne h.2.2.1 hm.1 (by simp)) (hv_ne h.2.2.1 hm.2 (by simp))) (fun z x hz => ho z (hv_ne hz hm.1 (itE_mk _ _)) (hv_ne hz hm.2 (itE_arr _ _)))
/-- layOut of boxes at most dd deep -/
def layP (l : Launch) (b0 : Nat) (D : va_G) (cA : Nat → ClassId) (x la ma mk n bn rw9 : Nat) (V : Wd) (ct : Nat) (ad ca pa : Nat → Nat) (gc : Nat → Nat → Option Nat) (gp : Nat → Nat → Int32) (dd : Nat) : Prop :=
  ∀ (f : hv_M) (b : Nat) (X Y : Int64) (r : Mk), f x = some (bpE la ma mk n bn) → (∀ b, b < ct → boxR cA f V ad ca pa gc gp b) → mkAt cA f mk rw9 r → r.2 ≤ 1000 → b < ct → (wA V 8 b).toInt ≤ dd →
    hv_Met l y_BP_layOut [Cond.code y_BP_layOut b_BP_layOut 9 (some FieldType.boolean)] (RM (2 + 2 * dd) 0 0) b0 (Fa D cA) D CL [.ref x, .ref (ad b), .long X, .long Y] f
      (fun v g => v = some (.int (b2i (layF V dd b X Y r).1)) ∧ mkAt cA g mk rw9 (layF V dd b X Y r).2 ∧ ∀ z, z ≠ mk → z ≠ rw9 → g z = f z) NX

set_option maxHeartbeats 4000000 in
set_option maxRecDepth 100000 in
theorem c_BP_layOutS (l : Launch) (hl0 : l.stackTraces = false) (b0 : Nat) (D : va_G) (cA : Nat → ClassId) (f : hv_M) (x la ma mk n bn rw9 : Nat) (V : Wd) (ct : Nat) (ad ca pa : Nat → Nat) (gc : Nat → Nat → Option Nat) (gp : Nat → Nat → Int32) (dd b : Nat) (X Y : Int64) (r : Mk) (hx0 : f x = some (.inr (0, [.ref la, .int (nI n), .ref ma, .int (nI bn), .ref mk]))) (hbs : ∀ b, b < ct → boxR cA f V ad ca pa gc gp b) (hbv : ∀ b, b < ct → bxV V b) (hm : mkAt cA f mk rw9 r) (hr9 : r.2 ≤ 1000) (hbc : b < ct) (hdp : (wA V 8 b).toInt ≤ dd + 1) (hrec : layP l b0 D cA x la ma mk n bn rw9 V ct ad ca pa gc gp dd) : hv_Met l y_BP_layOut [Cond.code y_BP_layOut b_BP_layOut 9 (some FieldType.boolean)] (RM (2 + 2 * (dd + 1)) 0 0) b0 (Fa D cA) D CL [.ref x, .ref (ad b), .long X, .long Y] f (fun v g => v = some (.int (b2i (layF V (dd + 1) b X Y r).1)) ∧ mkAt cA g mk rw9 (layF V (dd + 1) b X Y r).2 ∧ ∀ z, z ≠ mk → z ≠ rw9 → g z = f z) (NX) := by
  refine hv_Met.of (own := "BoxPacker") (by decide) rfl (Nat.le_of_ble_eq_true rfl) ?_
  intro p e s m below meth c hE hml hout hr hlocks hname hK hI ls hl
  have hl : lv_has ls 9 [(0, .ref x), (1, .ref (ad b)), (2, .long X), (4, .long Y)] := hl
  obtain ⟨hx, hb, hown, hts, hVK⟩ := id hE
  refine lv_iconst (v := 0) hx hb d_BP_layOut_0 (by decide) ?_
  refine lv_istore (lv' := [(6, .int 0), (0, .ref x), (1, .ref (ad b)), (2, .long X), (4, .long Y)]) hx hb d_BP_layOut_1 hl (by decide) rfl (fun ls hl => ?_)
  have hR9 := hbs b hbc
  have hV9 := hbv b hbc
  obtain ⟨hF1, hF2, -, hs1, hs2, -, -, -, -, -, -, hits⟩ := hV9
  have hx1 : x ≠ mk := hv_ne hx0 hm.1 (by simp)
  have hx2 : x ≠ rw9 := hv_ne hx0 hm.2 (by simp)
  have loop : ∀ (k i : Nat) (rr : Mk) (g : hv_M) (H : Heap) (locs : List Loc) (ls : Array Slot), i + k = (wF V (b + 1) - wF V b) → mkAt cA g mk rw9 rr → rr.2 ≤ 1000 → (∀ z, z ≠ mk → z ≠ rw9 → g z = f z) → layL (layI V (layF V dd) b X Y) k i rr = layL (layI V (layF V dd) b X Y) (wF V (b + 1) - wF V b) 0 r → hv_I D CL b0 g s.heap H locs → lv_has ls 9 [(0, .ref x), (1, .ref (ad b)), (2, .long X), (4, .long Y), (6, .int (nI i))] → W p l e (RM (2 + 2 * (dd + 1)) 0 0) s m ([.ref x, .ref (ad b), .long X, .long Y] : List Value).toArray below meth c H locs (0) (0) (xh_MQ below (hv_Q b0 (Fa D cA) D CL (fun v g => v = some (.int (b2i (layF V (dd + 1) b X Y r).1)) ∧ mkAt cA g mk rw9 (layF V (dd + 1) b X Y r).2 ∧ ∀ z, z ≠ mk → z ≠ rw9 → g z = f z) (NX)) s 0 0 (fun q => b0 ≤ q)) (F0 m 3 ls []) := by
    intro k
    induction k with
    | zero =>
      intro i rr g H locs ls hik hgm hgr9 hfo heq hI hl
      have hgx : g x = some (.inr (0, [.ref la, .int (nI n), .ref ma, .int (nI bn), .ref mk])) := by rw [hfo x hx1 hx2]; exact hx0
      have hgbs : ∀ b, b < ct → boxR cA g V ad ca pa gc gp b := fun b hb => (hbs b hb).marks hm hfo
      have hgR := hgbs b hbc
      refine lv_iload hx hb d_BP_layOut_3 (lv_at hl 4 rfl) ?_
      refine lv_aload_n hx hb d_BP_layOut_5 rfl (lv_at hl 1 rfl) ?_
      refine hv_getN hE k_Box hI 1 (by decide) w332 hgR.1 rfl d_BP_layOut_6 ?_
      refine hv_alen hE hI 3 hgR.2.1 rfl (z := nI (wF V (b + 1) - wF V b)) rfl d_BP_layOut_9 ?_
      refine lv_icmp_ge (tgt := 65) hx hb d_BP_layOut_10 (by decide) (fun c10 => ?_) (fun c10 => ?_)
      · skip
        refine lv_iconst (v := 1) hx hb d_BP_layOut_65 (by decide) ?_
        exact hv_zret hE hr hlocks hI hK (v := 1) (by first | rfl | exact b2i_nar _) ((show _ ∧ _ ∧ _ by rw [show layF V (dd + 1) b X Y r = (true, rr) from heq.symm]; exact ⟨rfl, hgm, hfo⟩)) (by exact Nat.le_refl _) (by exact Nat.le_refl _) d_BP_layOut_66
      · skip
        exact absurd (nI_le (by omega) (by omega)) c10
    | succ k ih =>
      intro i rr g H locs ls hik hgm hgr9 hfo heq hI hl
      have hgx : g x = some (.inr (0, [.ref la, .int (nI n), .ref ma, .int (nI bn), .ref mk])) := by rw [hfo x hx1 hx2]; exact hx0
      have hgbs : ∀ b, b < ct → boxR cA g V ad ca pa gc gp b := fun b hb => (hbs b hb).marks hm hfo
      have hgR := hgbs b hbc
      obtain ⟨q, hq1, hq2⟩ := hgR.2.2.2.1 i (by omega)
      have hiv9 := hits i (by omega)
      rcases hiv : itO V ad (wF V b + i) with ⟨t, iw, ih9, id9, inn, z9⟩ | ⟨iw, a9, b9, c9, e9⟩
      rcases inn with _ | qb
      · simp only [hiv, itE, va_rf] at hq2
        refine lv_iload hx hb d_BP_layOut_3 (lv_at hl 4 rfl) ?_
        refine lv_aload_n hx hb d_BP_layOut_5 rfl (lv_at hl 1 rfl) ?_
        refine hv_getN hE k_Box hI 1 (by decide) w332 hgR.1 rfl d_BP_layOut_6 ?_
        refine hv_alen hE hI 3 hgR.2.1 rfl (z := nI (wF V (b + 1) - wF V b)) rfl d_BP_layOut_9 ?_
        refine lv_icmp_ge (tgt := 65) hx hb d_BP_layOut_10 (by decide) (fun c10 => ?_) (fun c10 => ?_)
        · skip
          exact absurd c10 (nI_ge (by omega) (by omega))
        · skip
          refine lv_aload_n hx hb d_BP_layOut_13 rfl (lv_at hl 1 rfl) ?_
          refine hv_getN hE k_Box hI 1 (by decide) w332 hgR.1 rfl d_BP_layOut_14 ?_
          refine lv_iload hx hb d_BP_layOut_17 (lv_at hl 4 rfl) ?_
          refine hv_aald hE hI 3 hgR.2.1 rfl (pk_in i (wF V (b + 1) - wF V b) (by omega) rfl (by omega)) d_BP_layOut_19 ?_
          rw [nI_cl (by omega)]
          rw [hq1]
          refine W.eq (g2 := F0 m 20 ls [.ref q]) rfl ?_
          refine lv_astore (lv' := [(8, .ref q), (0, .ref x), (1, .ref (ad b)), (2, .long X), (4, .long Y), (6, .int (nI i))]) hx hb d_BP_layOut_20 hl (by decide) rfl (fun ls hl => ?_)
          refine lv_aload hx hb d_BP_layOut_22 (lv_at hl 0 rfl) ?_
          refine hv_instS hE hI hq2 rfl w177 d_BP_layOut_24 ?_
          refine lv_if_eq (tgt := 59) hx hb d_BP_layOut_27 (by decide) (fun c27 => ?_) (fun c27 => ?_)
          · skip
            exact absurd c27 (by decide)
          · skip
            refine lv_aload hx hb d_BP_layOut_30 (lv_at hl 0 rfl) ?_
            refine hv_castS hE hI hq2 rfl w177 d_BP_layOut_32 ?_
            refine lv_astore (lv' := [(7, .ref q), (8, .ref q), (0, .ref x), (1, .ref (ad b)), (2, .long X), (4, .long Y), (6, .int (nI i))]) hx hb d_BP_layOut_35 hl (by decide) rfl (fun ls hl => ?_)
            refine lv_aload_n hx hb d_BP_layOut_37 rfl (lv_at hl 2 rfl) ?_
            refine lv_aload_n hx hb d_BP_layOut_38 rfl (lv_at hl 3 rfl) ?_
            refine lv_aload hx hb d_BP_layOut_39 (lv_at hl 0 rfl) ?_
            refine lv_aload_n hx hb d_BP_layOut_41 rfl (lv_at hl 3 rfl) ?_
            refine hv_getN hE k_Box hI 2 (by decide) w334 hgR.1 rfl d_BP_layOut_42 ?_
            refine lv_iload hx hb d_BP_layOut_45 (lv_at hl 6 rfl) ?_
            refine hv_iald hE hI 0 hgR.2.2.1 rfl (pk_in i (wF V (b + 1) - wF V b) (by omega) rfl (by omega)) d_BP_layOut_47 ?_
            rw [nI_cl (by omega)]
            refine lv_lload_n hx hb d_BP_layOut_48 rfl (lv_at hl 4 rfl) ?_
            refine lv_lload hx hb d_BP_layOut_49 (lv_at hl 5 rfl) ?_
            have hcon := (c_BP_layOutItemN l hl0 b0 D cA g x la ma mk n bn rw9 (ad b) (ca b) (pa b) q (wB V b) (wA V 8 b) (wA V 9 b) (wA V 0 b) (wA V 1 b) (wA V 2 b) (wA V 3 b) (wA V 4 b) (wA V 5 b) (wA V 7 b) t iw ih9 id9 z9 (gp b i) X Y rr hgx hgR.1 hgm hgr9 hq2)
            rw [← layI_none (go := layF V dd) (hR9.2.2.2.2 i (by omega)) hiv9.1 hs1 hs2 hiv] at hcon
            refine hv_V (As := [.ref (ad b), .ref q, .int ((gp b) i), .long X, .long Y]) (rest := []) hE hml hK hI hcon cd_BP_layOutItem w492 w494 ws16 hgx rfl rfl hl.1 (Nat.le_of_ble_eq_true rfl) d_BP_layOut_51 ⟨by first | (show 10 + _ + 1 ≤ 10 + _; omega) | (show 8 + (_ + 11) + (200 + 40 * _) ≤ 200 + 40 * _; omega), by first | (show 10 + _ + 1 ≤ 10 + _; omega) | (show 8 + (_ + 11) + (200 + 40 * _) ≤ 200 + 40 * _; omega)⟩ ⟨by exact Nat.le_refl _, by exact Nat.le_refl _⟩ (fun v9 g1 H locs hp hI => ?_) (fun q9 E9 ce9 g9 H locs hp => hp.elim)
            obtain ⟨hv, hm9, ho9⟩ := hp
            rw [hv]
            refine W.eq (g2 := F0 m 54 ls [.int (b2i (layI V (layF V dd) b X Y i rr).1)]) rfl ?_
            refine lv_if_ne (tgt := 59) hx hb d_BP_layOut_54 (by decide) (fun c54 => ?_) (fun c54 => ?_)
            · skip
              obtain ⟨v2, ev2⟩ : ∃ y : Int32, y = (nI i) + 1 := ⟨_, rfl⟩
              refine lv_iinc (v := v2) (lv' := [(6, .int v2), (7, .ref q), (8, .ref q), (0, .ref x), (1, .ref (ad b)), (2, .long X), (4, .long Y)]) hx hb d_BP_layOut_59 hl (k := 6) rfl (by rw [ev2]; rfl) (by decide) rfl (fun ls hl => ?_)
              refine lv_goto (tgt := 3) hx hb d_BP_layOut_62 (by decide) ?_
              exact ih (i + 1) _ _ _ _ ls (by omega) hm9 (layI_le (layF_le V dd) hgr9) (fun z z1 z2 => by rw [ho9 z z1 z2]; exact hfo z z1 z2) (by rw [← heq, layL, if_pos (b2i_t c54)]) hI (by rw [← nI_1, ← ev2]; exact lv_sub hl [3, 4, 5, 6, 0] rfl)
            · skip
              refine lv_iconst (v := 0) hx hb d_BP_layOut_57 (by decide) ?_
              exact hv_zret hE hr hlocks hI hK (v := 0) (by first | rfl | exact b2i_nar _) ((show _ ∧ _ ∧ _ by rw [show layF V (dd + 1) b X Y r = (false, (layI V (layF V dd) b X Y i rr).2) from by rw [layF, ← heq, layL, if_neg (by rw [b2i_f c54]; decide)]]; exact ⟨rfl, hm9, fun z z1 z2 => by rw [ho9 z z1 z2]; exact hfo z z1 z2⟩)) (by exact Nat.le_refl _) (by exact Nat.le_refl _) d_BP_layOut_58
      · simp only [hiv, itE, va_rf] at hq2
        have hic : wI V (wF V b + i) < ct := by
          rcases hiv9.1 with ⟨k0, -⟩ | ⟨k0, -⟩ | ⟨k0, -⟩ | ⟨k0, -⟩ | ⟨-, -, k0, -⟩
          · rw [itO, if_pos k0] at hiv; simp at hiv
          · rw [itO, if_neg (by rw [k0]; decide), if_pos k0] at hiv; simp at hiv
          · rw [itO, if_neg (by rw [k0]; decide), if_neg (by rw [k0]; decide), if_neg (by rw [k0]; decide)] at hiv; cases hiv
          · rw [itO, if_neg (by rw [k0]; decide), if_neg (by rw [k0]; decide), if_neg (by rw [k0]; decide)] at hiv; cases hiv
          · omega
        have hs9 : szI (wA V 1 (wI V (wF V b + i))) := (hbv _ hic).2.2.2.1
        refine lv_iload hx hb d_BP_layOut_3 (lv_at hl 4 rfl) ?_
        refine lv_aload_n hx hb d_BP_layOut_5 rfl (lv_at hl 1 rfl) ?_
        refine hv_getN hE k_Box hI 1 (by decide) w332 hgR.1 rfl d_BP_layOut_6 ?_
        refine hv_alen hE hI 3 hgR.2.1 rfl (z := nI (wF V (b + 1) - wF V b)) rfl d_BP_layOut_9 ?_
        refine lv_icmp_ge (tgt := 65) hx hb d_BP_layOut_10 (by decide) (fun c10 => ?_) (fun c10 => ?_)
        · skip
          exact absurd c10 (nI_ge (by omega) (by omega))
        · skip
          refine lv_aload_n hx hb d_BP_layOut_13 rfl (lv_at hl 1 rfl) ?_
          refine hv_getN hE k_Box hI 1 (by decide) w332 hgR.1 rfl d_BP_layOut_14 ?_
          refine lv_iload hx hb d_BP_layOut_17 (lv_at hl 4 rfl) ?_
          refine hv_aald hE hI 3 hgR.2.1 rfl (pk_in i (wF V (b + 1) - wF V b) (by omega) rfl (by omega)) d_BP_layOut_19 ?_
          rw [nI_cl (by omega)]
          rw [hq1]
          refine W.eq (g2 := F0 m 20 ls [.ref q]) rfl ?_
          refine lv_astore (lv' := [(8, .ref q), (0, .ref x), (1, .ref (ad b)), (2, .long X), (4, .long Y), (6, .int (nI i))]) hx hb d_BP_layOut_20 hl (by decide) rfl (fun ls hl => ?_)
          refine lv_aload hx hb d_BP_layOut_22 (lv_at hl 0 rfl) ?_
          refine hv_instS hE hI hq2 rfl w177 d_BP_layOut_24 ?_
          refine lv_if_eq (tgt := 59) hx hb d_BP_layOut_27 (by decide) (fun c27 => ?_) (fun c27 => ?_)
          · skip
            exact absurd c27 (by decide)
          · skip
            refine lv_aload hx hb d_BP_layOut_30 (lv_at hl 0 rfl) ?_
            refine hv_castS hE hI hq2 rfl w177 d_BP_layOut_32 ?_
            refine lv_astore (lv' := [(7, .ref q), (8, .ref q), (0, .ref x), (1, .ref (ad b)), (2, .long X), (4, .long Y), (6, .int (nI i))]) hx hb d_BP_layOut_35 hl (by decide) rfl (fun ls hl => ?_)
            refine lv_aload_n hx hb d_BP_layOut_37 rfl (lv_at hl 2 rfl) ?_
            refine lv_aload_n hx hb d_BP_layOut_38 rfl (lv_at hl 3 rfl) ?_
            refine lv_aload hx hb d_BP_layOut_39 (lv_at hl 0 rfl) ?_
            refine lv_aload_n hx hb d_BP_layOut_41 rfl (lv_at hl 3 rfl) ?_
            refine hv_getN hE k_Box hI 2 (by decide) w334 hgR.1 rfl d_BP_layOut_42 ?_
            refine lv_iload hx hb d_BP_layOut_45 (lv_at hl 6 rfl) ?_
            refine hv_iald hE hI 0 hgR.2.2.1 rfl (pk_in i (wF V (b + 1) - wF V b) (by omega) rfl (by omega)) d_BP_layOut_47 ?_
            rw [nI_cl (by omega)]
            refine lv_lload_n hx hb d_BP_layOut_48 rfl (lv_at hl 4 rfl) ?_
            refine lv_lload hx hb d_BP_layOut_49 (lv_at hl 5 rfl) ?_
            obtain ⟨hk4, hqb, hli⟩ := layI_box (go := layF V dd) (x := X) (y := Y) (r := rr) (hR9.2.2.2.2 i (by omega)) hs9 hiv
            have hrc := hrec g (wI V (wF V b + i)) (if wB V b = true then X + z9.toInt64 else X + (gp b i).toInt64) (if wB V b = true then Y - (wA V 1 b).toInt64 + (gp b i).toInt64 + (kn ih9 0).toInt64 else Y + z9.toInt64) rr hgx hgbs hgm hgr9 hic (by have := hiv9.2 hk4; omega)
            rw [← hli, ← hqb] at hrc
            have hcon := (c_BP_layOutItemB l hl0 b0 D cA g x la ma mk n bn rw9 (ad b) (ca b) (pa b) q qb (2 + 2 * dd) (wB V b) (wA V 8 b) (wA V 9 b) (wA V 0 b) (wA V 1 b) (wA V 2 b) (wA V 3 b) (wA V 4 b) (wA V 5 b) (wA V 7 b) t iw ih9 id9 z9 (gp b i) X Y rr _ _ hgx hgR.1 hgm hgr9 hq2 (by omega) hrc)
            refine hv_V (As := [.ref (ad b), .ref q, .int ((gp b) i), .long X, .long Y]) (rest := []) hE hml hK hI hcon cd_BP_layOutItem w492 w494 ws16 hgx rfl rfl hl.1 (Nat.le_of_ble_eq_true rfl) d_BP_layOut_51 ⟨by first | (show 10 + _ + 1 ≤ 10 + _; omega) | (show 8 + (_ + 11) + (200 + 40 * _) ≤ 200 + 40 * _; omega), by first | (show 10 + _ + 1 ≤ 10 + _; omega) | (show 8 + (_ + 11) + (200 + 40 * _) ≤ 200 + 40 * _; omega)⟩ ⟨by exact Nat.le_refl _, by exact Nat.le_refl _⟩ (fun v9 g3 H locs hp hI => ?_) (fun q9 E9 ce9 g9 H locs hp => hp.elim)
            obtain ⟨hv, hm9, ho9⟩ := hp
            rw [hv]
            refine W.eq (g2 := F0 m 54 ls [.int (b2i (layI V (layF V dd) b X Y i rr).1)]) rfl ?_
            refine lv_if_ne (tgt := 59) hx hb d_BP_layOut_54 (by decide) (fun c54 => ?_) (fun c54 => ?_)
            · skip
              obtain ⟨v4, ev4⟩ : ∃ y : Int32, y = (nI i) + 1 := ⟨_, rfl⟩
              refine lv_iinc (v := v4) (lv' := [(6, .int v4), (7, .ref q), (8, .ref q), (0, .ref x), (1, .ref (ad b)), (2, .long X), (4, .long Y)]) hx hb d_BP_layOut_59 hl (k := 6) rfl (by rw [ev4]; rfl) (by decide) rfl (fun ls hl => ?_)
              refine lv_goto (tgt := 3) hx hb d_BP_layOut_62 (by decide) ?_
              exact ih (i + 1) _ _ _ _ ls (by omega) hm9 (layI_le (layF_le V dd) hgr9) (fun z z1 z2 => by rw [ho9 z z1 z2]; exact hfo z z1 z2) (by rw [← heq, layL, if_pos (b2i_t c54)]) hI (by rw [← nI_1, ← ev4]; exact lv_sub hl [3, 4, 5, 6, 0] rfl)
            · skip
              refine lv_iconst (v := 0) hx hb d_BP_layOut_57 (by decide) ?_
              exact hv_zret hE hr hlocks hI hK (v := 0) (by first | rfl | exact b2i_nar _) ((show _ ∧ _ ∧ _ by rw [show layF V (dd + 1) b X Y r = (false, (layI V (layF V dd) b X Y i rr).2) from by rw [layF, ← heq, layL, if_neg (by rw [b2i_f c54]; decide)]]; exact ⟨rfl, hm9, fun z z1 z2 => by rw [ho9 z z1 z2]; exact hfo z z1 z2⟩)) (by exact Nat.le_refl _) (by exact Nat.le_refl _) d_BP_layOut_58
      · simp only [hiv, itE, va_rf] at hq2
        refine lv_iload hx hb d_BP_layOut_3 (lv_at hl 4 rfl) ?_
        refine lv_aload_n hx hb d_BP_layOut_5 rfl (lv_at hl 1 rfl) ?_
        refine hv_getN hE k_Box hI 1 (by decide) w332 hgR.1 rfl d_BP_layOut_6 ?_
        refine hv_alen hE hI 3 hgR.2.1 rfl (z := nI (wF V (b + 1) - wF V b)) rfl d_BP_layOut_9 ?_
        refine lv_icmp_ge (tgt := 65) hx hb d_BP_layOut_10 (by decide) (fun c10 => ?_) (fun c10 => ?_)
        · skip
          exact absurd c10 (nI_ge (by omega) (by omega))
        · skip
          refine lv_aload_n hx hb d_BP_layOut_13 rfl (lv_at hl 1 rfl) ?_
          refine hv_getN hE k_Box hI 1 (by decide) w332 hgR.1 rfl d_BP_layOut_14 ?_
          refine lv_iload hx hb d_BP_layOut_17 (lv_at hl 4 rfl) ?_
          refine hv_aald hE hI 3 hgR.2.1 rfl (pk_in i (wF V (b + 1) - wF V b) (by omega) rfl (by omega)) d_BP_layOut_19 ?_
          rw [nI_cl (by omega)]
          rw [hq1]
          refine W.eq (g2 := F0 m 20 ls [.ref q]) rfl ?_
          refine lv_astore (lv' := [(8, .ref q), (0, .ref x), (1, .ref (ad b)), (2, .long X), (4, .long Y), (6, .int (nI i))]) hx hb d_BP_layOut_20 hl (by decide) rfl (fun ls hl => ?_)
          refine lv_aload hx hb d_BP_layOut_22 (lv_at hl 0 rfl) ?_
          refine hv_instN hE hI hK hq2 rfl (nm := "BoxPacker$Solid") (by decide) w177 d_BP_layOut_24 ?_
          refine lv_if_eq (tgt := 59) hx hb d_BP_layOut_27 (by decide) (fun c27 => ?_) (fun c27 => ?_)
          · skip
            obtain ⟨v5, ev5⟩ : ∃ y : Int32, y = (nI i) + 1 := ⟨_, rfl⟩
            refine lv_iinc (v := v5) (lv' := [(6, .int v5), (8, .ref q), (0, .ref x), (1, .ref (ad b)), (2, .long X), (4, .long Y)]) hx hb d_BP_layOut_59 hl (k := 5) rfl (by rw [ev5]; rfl) (by decide) rfl (fun ls hl => ?_)
            refine lv_goto (tgt := 3) hx hb d_BP_layOut_62 (by decide) ?_
            exact ih (i + 1) rr _ _ _ ls (by omega) hgm hgr9 hfo (by rw [← heq, layL, layI_space hiv, if_pos rfl]) hI (by rw [← nI_1, ← ev5]; exact lv_sub hl [2, 3, 4, 5, 0] rfl)
          · skip
            exact absurd rfl c27
  exact loop (wF V (b + 1) - wF V b) 0 r f _ _ ls (by omega) hm hr9 (fun z _ _ => rfl) rfl hI (lv_sub hl [1, 2, 3, 4, 0] rfl)

theorem layP_all (l : Launch) (hl0 : l.stackTraces = false) (b0 : Nat) (D : va_G) (cA : Nat → ClassId) (x la ma mk n bn rw9 : Nat) (V : Wd) (ct : Nat) (ad ca pa : Nat → Nat) (gc : Nat → Nat → Option Nat) (gp : Nat → Nat → Int32) (hbv : ∀ b, b < ct → bxV V b) : ∀ dd, layP l b0 D cA x la ma mk n bn rw9 V ct ad ca pa gc gp dd
  | 0 => fun f b X Y r _ _ _ _ hb hd => by
    have := (hbv b hb).2.2.2.2.2.2.2.2.1.1
    omega
  | dd + 1 => fun f b X Y r hx0 hbs hm hr9 hb hd => c_BP_layOutS l hl0 b0 D cA f x la ma mk n bn rw9 V ct ad ca pa gc gp dd b X Y r hx0 hbs hbv hm hr9 hb (by omega) (layP_all l hl0 b0 D cA x la ma mk n bn rw9 V ct ad ca pa gc gp hbv dd)
end
section
section HVF
variable {p : Program} {l : Launch} {e : Env} {R : Room} {s : State} {m : MethodId} {args : Array Value} {below : List Frame} {meth : Method} {c : Code} {H : Heap} {locs : List Loc} {cells slots : Nat} {Q : State → Prop}
variable {cc : ByteArray} {pc : Nat} {ls : Array Slot} {rest : List Value} {D : va_G} {cl : List vw_C} {tys : List (ClassId × FieldType)} {Ts : List Cond} {b0 a ci N index : Nat} {f : hv_M} {H0 : Heap} {own host C : String} {T : u_T} {ty : Nat → FieldType} {fs : List Value} {v : Value}
variable {n t0 : Nat} {cA : ClassId} {i : Int32}
theorem hv_aastS (hE : hv_E p c cc s m args own Ts D cl tys) (hI : hv_I D cl b0 f H0 H locs) (t0 : Nat) {B : String} {g : Nat → Option Nat} {v0 : Nat} {vs : List Value} {T9 : u_T} {N9 : Nat} (he : f a = some (.inl (cA, n, .inr (.inr (.inr (.inr g)))))) (ht : tys[t0]? = some (cA, .object B)) (hv : f v0 = some (.inr (ci, vs))) (hc : cl[ci]? = some (B, T9, N9)) (hin : vp_in i n) (hd : decode cc pc = .ok (.aastore, 1))
    (kk : ∀ (H1 : Heap) (locs1 : List Loc), hv_I D cl b0 (hv_up f a (.inl (cA, n, .inr (.inr (.inr (.inr (va_up g i.toNatClampNeg (some v0)))))))) H0 H1 locs1 → W p l e R s m args below meth c H1 locs1 cells slots Q (F0 m (pc + 1) ls rest)) : W p l e R s m args below meth c H locs cells slots Q (F0 m pc ls (.ref v0 :: .int i :: .ref a :: rest)) := by
  obtain ⟨hx, hb, hown, hts, hK⟩ := hE
  have hlt : i.toNatClampNeg < n := Nat.not_le.mp fun q => hin (Or.inr q)
  have h0 : ¬ i < 0 := fun q => hin (Or.inl q)
  obtain ⟨r', hr', cellV, g1, g2, g3, -⟩ := hI.1 v0 _ hv
  cases hc.symm.trans hr'
  have hcls := (hK.1 ci _ hc).2.1
  obtain ⟨kA, comp, k1, k2, k3, -⟩ := (hK.2 t0 _ ht).2
  obtain ⟨kE, hkE, -⟩ := Vm.findClass_spec k3
  obtain ⟨kC, hkC, -⟩ := Vm.findClass_spec hcls
  cases k3.symm.trans hcls
  have f3 := va_assign (hK.1 ci _ hc).2
  refine W.aast hx hb (hI.1 a _ he) (fun q h => by cases h) (fun h => by cases h) k1 k2 rfl hkE ⟨h0, by show _ < (arrV _ _ _).slots.size; rw [arrV_size]; exact hlt⟩ g1 (fun q h => by rw [g3] at h; cases h) (by rw [g2]; exact hkC) (by rw [g2]; exact f3) rfl rfl hd fun H1 e1 z oq => ?_
  refine kk H1 _ (hI.set he ?_ z oq)
  show H1[a]? = some (vp_cell _ _)
  rw [e1, vp_cell_q, vp_cell_q, arrV_store]
  congr 2
  funext q
  by_cases hq : q = i.toNatClampNeg
  · subst hq
    simp [updV, va_up, va_rf]
  · simp [updV, va_up, hq]
end HVF

/-! ===== lay, pack ===== -/
def layR (V : Wd) (b : Nat) (x y : Int64) (r : Mk) : Mk × Int32 :=
  if 20000 < wA V 9 b then ((r.1, 0), -1) else if (layF V 10 b x y (r.1, 0)).1 = true then ((layF V 10 b x y (r.1, 0)).2, nI (layF V 10 b x y (r.1, 0)).2.2) else (((layF V 10 b x y (r.1, 0)).2.1, 0), -1)

set_option maxHeartbeats 4000000 in
set_option maxRecDepth 100000 in
theorem c_BP_lay (l : Launch) (hl0 : l.stackTraces = false) (b0 : Nat) (D : va_G) (cA : Nat → ClassId) (f : hv_M) (x la ma mk n bn : Nat) (rw9 : Nat) (k X Y : Int32) (r : Mk) (V : Wd) (gb : Nat → Option Nat) (ad ca pa : Nat → Nat) (gc : Nat → Nat → Option Nat) (gp : Nat → Nat → Int32) (hx0 : f x = some (.inr (0, [.ref la, .int (nI n), .ref ma, .int (nI bn), .ref mk]))) (hma : f ma = some (.inl (cA 4, 100, .inr (.inr (.inr (.inr gb)))))) (had : ∀ j, j < bn → gb j = some (ad j)) (hbn : bn ≤ 100) (hbs : ∀ b, b < bn → boxR cA f V ad ca pa gc gp b) (hbv : ∀ b, b < bn → bxV V b) (hm : mkAt cA f mk rw9 r) : hv_Met l y_BP_lay [Cond.code y_BP_lay b_BP_lay 5 (some FieldType.int)] (RM 23 2 12) b0 (Fa D cA) D CL [.ref x, .int k, .int X, .int Y] f (fun v g => isBx k bn = true ∧ sz X.toInt64 = true ∧ sz Y.toInt64 = true ∧ v = some (.int (layR V k.toNatClampNeg X.toInt64 Y.toInt64 r).2) ∧ mkAt cA g mk rw9 (layR V k.toNatClampNeg X.toInt64 Y.toInt64 r).1 ∧ ∀ z, z ≠ mk → z ≠ rw9 → g z = f z) (fun E g => g = f ∧ ((E = "java/lang/IndexOutOfBoundsException" ∧ isBx k bn = false) ∨ (E = "java/lang/IllegalArgumentException" ∧ isBx k bn = true ∧ (sz X.toInt64 && sz Y.toInt64) = false))) := by
  refine hv_Met.of (own := "BoxPacker") (by decide) rfl (Nat.le_of_ble_eq_true rfl) ?_
  intro p e s m below meth c hE hml hout hr hlocks hname hK hI ls hl
  have hl : lv_has ls 5 [(0, .ref x), (1, .int k), (2, .int X), (3, .int Y)] := hl
  obtain ⟨hx, hb, hown, hts, hVK⟩ := id hE
  have hin : isBx k bn = true → f (ad k.toNatClampNeg) = some (boxC V ca pa k.toNatClampNeg) := fun hk => (hbs _ (isBx_nat hk hbn).1).1
  have hx1 : x ≠ mk := hv_ne hx0 hm.1 (by simp)
  have hx2 : x ≠ rw9 := hv_ne hx0 hm.2 (by simp)
  have hmr : mk ≠ rw9 := hv_ne hm.1 hm.2 (by simp)
  refine lv_aload_n hx hb d_BP_lay_0 rfl (lv_at hl 0 rfl) ?_
  refine lv_iload_n hx hb d_BP_lay_1 rfl (lv_at hl 1 rfl) ?_
  obtain ⟨aj, eaj⟩ : ∃ z : Nat, z = ad k.toNatClampNeg := ⟨_, rfl⟩
  refine hv_V (As := [.int k]) (rest := []) hE hml hK hI (c_BP_boxNumbered l hl0 b0 D cA f x la ma mk n bn k gb ad hx0 hma had hbn) cd_BP_boxNumbered w283 w285 ws3 hx0 rfl rfl hl.1 (Nat.le_of_ble_eq_true rfl) d_BP_lay_2 ⟨by decide, by decide⟩ ⟨by decide, by decide⟩ (fun v9 g1 H locs hp hI => ?_) (fun q9 E9 ce9 g9 H locs hp hI hce hcv hcl => ?_)
  rotate_left
  · skip
    obtain ⟨hE9, hg9, hc9⟩ := hp
    rw [hE9] at hcl
    rw [hg9] at hI
    exact hv_out hout hlocks hI hK hce hcv hcl (⟨rfl, Or.inl ⟨rfl, hc9⟩⟩) (by decide) (by decide)
  obtain ⟨hv, hk, hg9⟩ := hp
  rw [hv, ← eaj]
  rw [hg9] at hI
  refine W.eq (g2 := F0 m 5 ls [.ref aj]) rfl ?_
  have hgj : f aj = some (boxC V ca pa k.toNatClampNeg) := by rw [eaj]; exact hin hk
  refine lv_astore (lv' := [(4, .ref aj), (0, .ref x), (1, .int k), (2, .int X), (3, .int Y)]) hx hb d_BP_lay_5 hl (by decide) rfl (fun ls hl => ?_)
  refine lv_iload_n hx hb d_BP_lay_7 rfl (lv_at hl 3 rfl) ?_
  refine lv_i2l (v := X.toInt64) hx hb d_BP_lay_8 rfl ?_
  refine hv_Sp (As := [.long X.toInt64]) (rest := []) hE hml hK hI (c_BP_isSize l hl0 b0 D cA f X.toInt64) cd_BP_isSize w151 w152 rfl rfl rfl hl.1 (Nat.le_of_ble_eq_true rfl) d_BP_lay_9 ⟨by decide, by decide⟩ ⟨by decide, by decide⟩ (fun H locs hI => ?_)
  refine W.eq (g2 := F0 m 12 ls [.int (b2i (sz X.toInt64))]) rfl ?_
  refine lv_if_eq (tgt := 23) hx hb d_BP_lay_12 (by decide) (fun c12 => ?_) (fun c12 => ?_)
  · skip
    have k12 := b2i_f c12
    exact hv_throw hE hl0 (cls := "java/lang/IllegalArgumentException") (text := "x or y is no size") (names := NMS) (by decide) (by decide) hI hK (hv_thr tw_IAE (by decide)) (by rw [hml]; exact hl.1) d_BP_lay_23 d_BP_lay_26 d_BP_lay_27 d_BP_lay_29 d_BP_lay_32 hout (by decide) (by decide) hlocks (⟨rfl, Or.inr ⟨rfl, hk, by simp [k12]⟩⟩) (by decide) (by decide) (by decide) (by decide)
  · skip
    have k12 := b2i_t c12
    refine lv_iload_n hx hb d_BP_lay_15 rfl (lv_at hl 4 rfl) ?_
    refine lv_i2l (v := Y.toInt64) hx hb d_BP_lay_16 rfl ?_
    refine hv_Sp (As := [.long Y.toInt64]) (rest := []) hE hml hK hI (c_BP_isSize l hl0 b0 D cA f Y.toInt64) cd_BP_isSize w151 w152 rfl rfl rfl hl.1 (Nat.le_of_ble_eq_true rfl) d_BP_lay_17 ⟨by decide, by decide⟩ ⟨by decide, by decide⟩ (fun H locs hI => ?_)
    refine W.eq (g2 := F0 m 20 ls [.int (b2i (sz Y.toInt64))]) rfl ?_
    refine lv_if_ne (tgt := 33) hx hb d_BP_lay_20 (by decide) (fun c20 => ?_) (fun c20 => ?_)
    · skip
      have k20 := b2i_t c20
      refine lv_aload_n hx hb d_BP_lay_33 rfl (lv_at hl 1 rfl) ?_
      refine hv_get hE k_BP hI 4 (by decide) w48 hx0 rfl d_BP_lay_34 ?_
      refine hv_VN (As := []) (rest := []) hE hml hK hI (c_Marks_clear l hl0 b0 D cA f mk rw9 (nI r.2) hm.1) cd_Marks_clear w484 w486 ws14 hm.1 rfl rfl hl.1 (Nat.le_of_ble_eq_true rfl) d_BP_lay_37 ⟨by decide, by decide⟩ ⟨by decide, by decide⟩ (fun v9 g3 H locs hp hI => ?_) (fun q9 E9 ce9 g9 H locs hp => hp.elim)
      obtain ⟨hv, egc⟩ := hp
      rw [hv]
      refine W.eq (g2 := F0 m 40 ls []) rfl ?_
      have hgk2 : g3 mk = some (.inr (4, [.ref rw9, .int 0])) := by rw [egc]; exact hv_up_self _ _ _
      have hfo : ∀ z, z ≠ mk → z ≠ rw9 → g3 z = f z := fun z z1 z2 => by rw [egc, hv_up_ne _ _ z1]
      have hgm : mkAt cA g3 mk rw9 (r.1, 0) := ⟨hgk2, by rw [egc, hv_up_ne _ _ (Ne.symm hmr)]; exact hm.2⟩
      have h4 : g3 x = some (.inr (0, [.ref la, .int (nI n), .ref ma, .int (nI bn), .ref mk])) := by rw [egc, hv_up_ne _ _ (hv_ne hx0 hm.1 (by simp))]; exact hx0
      have h5 : g3 ma = some (.inl (cA 4, 100, .inr (.inr (.inr (.inr gb))))) := by rw [egc, hv_up_ne _ _ (hv_ne hma hm.1 (by simp))]; exact hma
      have h6 : g3 rw9 = some (.inl (cA 1, 6000, .inr (.inl (r.1)))) := by rw [egc, hv_up_ne _ _ (hv_ne hm.2 hm.1 (by simp))]; exact hm.2
      have h7 : g3 aj = some (boxC V ca pa k.toNatClampNeg) := by rw [egc, hv_up_ne _ _ (hv_ne hgj hm.1 (by simp))]; exact hgj
      refine lv_aload hx hb d_BP_lay_40 (lv_at hl 0 rfl) ?_
      refine hv_getN hE k_Box hI 4 (by decide) w338 h7 rfl d_BP_lay_42 ?_
      refine lv_sipush (v := 20000) hx hb d_BP_lay_45 (by decide) ?_
      refine lv_icmp_gt (tgt := 64) hx hb d_BP_lay_48 (by decide) (fun c48 => ?_) (fun c48 => ?_)
      · skip
        refine lv_aload_n hx hb d_BP_lay_64 rfl (lv_at hl 1 rfl) ?_
        refine hv_get hE k_BP hI 4 (by decide) w48 h4 rfl d_BP_lay_65 ?_
        refine hv_VN (As := []) (rest := []) hE hml hK hI (c_Marks_clear l hl0 b0 D cA g3 mk rw9 0 hgk2) cd_Marks_clear w484 w486 ws14 hgk2 rfl rfl hl.1 (Nat.le_of_ble_eq_true rfl) d_BP_lay_68 ⟨by decide, by decide⟩ ⟨by decide, by decide⟩ (fun v9 g9 H locs hp hI => ?_) (fun q9 E9 ce9 g9 H locs hp => hp.elim)
        obtain ⟨hv, egc⟩ := hp
        rw [hv]
        refine W.eq (g2 := F0 m 71 ls []) rfl ?_
        have hgk8 : g9 mk = some (.inr (4, [.ref rw9, .int 0])) := by rw [egc]; exact hv_up_self _ _ _
        have hfo : ∀ z, z ≠ mk → z ≠ rw9 → g9 z = f z := fun z z1 z2 => by rw [egc, hv_up_ne _ _ z1]; exact hfo z z1 z2
        have hgm : mkAt cA g9 mk rw9 (r.1, 0) := ⟨hgk8, by rw [egc, hv_up_ne _ _ (Ne.symm hmr)]; exact h6⟩
        have h10 : g9 x = some (.inr (0, [.ref la, .int (nI n), .ref ma, .int (nI bn), .ref mk])) := by rw [egc, hv_up_ne _ _ (hv_ne h4 hgk2 (by simp))]; exact h4
        have h11 : g9 ma = some (.inl (cA 4, 100, .inr (.inr (.inr (.inr gb))))) := by rw [egc, hv_up_ne _ _ (hv_ne h5 hgk2 (by simp))]; exact h5
        have h12 : g9 rw9 = some (.inl (cA 1, 6000, .inr (.inl (r.1)))) := by rw [egc, hv_up_ne _ _ (hv_ne h6 hgk2 (by simp))]; exact h6
        have h13 : g9 aj = some (boxC V ca pa k.toNatClampNeg) := by rw [egc, hv_up_ne _ _ (hv_ne h7 hgk2 (by simp))]; exact h7
        refine lv_iconst (v := (-1)) hx hb d_BP_lay_71 (by decide) ?_
        exact hv_iret hE hr hlocks hI hK (v := (-1)) ((show _ ∧ _ ∧ _ ∧ _ ∧ _ ∧ _ by rw [show layR V k.toNatClampNeg X.toInt64 Y.toInt64 r = _ from if_pos c48]; exact ⟨hk, k12, k20, rfl, hgm, hfo⟩)) (by decide) (by decide) d_BP_lay_72
      · skip
        refine lv_aload_n hx hb d_BP_lay_51 rfl (lv_at hl 1 rfl) ?_
        refine lv_aload hx hb d_BP_lay_52 (lv_at hl 0 rfl) ?_
        refine lv_iload_n hx hb d_BP_lay_54 rfl (lv_at hl 3 rfl) ?_
        refine lv_i2l (v := X.toInt64) hx hb d_BP_lay_55 rfl ?_
        refine lv_iload_n hx hb d_BP_lay_56 rfl (lv_at hl 4 rfl) ?_
        refine lv_i2l (v := Y.toInt64) hx hb d_BP_lay_57 rfl ?_
        have hcon := layP_all l hl0 b0 D cA x la ma mk n bn rw9 V bn ad ca pa gc gp hbv 10 g3 k.toNatClampNeg X.toInt64 Y.toInt64 (r.1, 0) h4 (fun b hb => (hbs b hb).marks hm hfo) hgm (Nat.zero_le _) (isBx_nat hk hbn).1 (hbv _ (isBx_nat hk hbn).1).2.2.2.2.2.2.2.2.1.2
        rw [← eaj] at hcon
        refine hv_V (As := [.ref aj, .long X.toInt64, .long Y.toInt64]) (rest := []) hE hml hK hI hcon cd_BP_layOut w488 w490 ws15 h4 rfl rfl hl.1 (Nat.le_of_ble_eq_true rfl) d_BP_lay_58 ⟨by decide, by decide⟩ ⟨by decide, by decide⟩ (fun v9 g14 H locs hp hI => ?_) (fun q9 E9 ce9 g9 H locs hp => hp.elim)
        obtain ⟨hv, hm9, ho9⟩ := hp
        rw [hv]
        refine W.eq (g2 := F0 m 61 ls [.int (b2i (layF V 10 k.toNatClampNeg X.toInt64 Y.toInt64 (r.1, 0)).1)]) rfl ?_
        have hfo : ∀ z, z ≠ mk → z ≠ rw9 → g14 z = f z := fun z z1 z2 => by rw [ho9 z z1 z2]; exact hfo z z1 z2
        have h15 : g14 x = some (.inr (0, [.ref la, .int (nI n), .ref ma, .int (nI bn), .ref mk])) := by rw [ho9 _ (hv_ne h4 hgm.1 (by simp)) (hv_ne h4 hgm.2 (by simp))]; exact h4
        have h16 : g14 ma = some (.inl (cA 4, 100, .inr (.inr (.inr (.inr gb))))) := by rw [ho9 _ (hv_ne h5 hgm.1 (by simp)) (hv_ne h5 hgm.2 (by simp))]; exact h5
        have h17 : g14 aj = some (boxC V ca pa k.toNatClampNeg) := by rw [ho9 _ (hv_ne h7 hgm.1 (by simp)) (hv_ne h7 hgm.2 (by simp))]; exact h7
        refine lv_if_ne (tgt := 73) hx hb d_BP_lay_61 (by decide) (fun c61 => ?_) (fun c61 => ?_)
        · skip
          have k61 := b2i_t c61
          refine lv_aload_n hx hb d_BP_lay_73 rfl (lv_at hl 1 rfl) ?_
          refine hv_get hE k_BP hI 4 (by decide) w48 h15 rfl d_BP_lay_74 ?_
          refine hv_getN hE k_Marks hI 1 (by decide) w37 hm9.1 rfl d_BP_lay_77 ?_
          exact hv_iret hE hr hlocks hI hK (v := nI (layF V 10 k.toNatClampNeg X.toInt64 Y.toInt64 (r.1, 0)).2.2) ((show _ ∧ _ ∧ _ ∧ _ ∧ _ ∧ _ by rw [show layR V k.toNatClampNeg X.toInt64 Y.toInt64 r = _ from (if_neg c48).trans (if_pos k61)]; exact ⟨hk, k12, k20, rfl, hm9, hfo⟩)) (by decide) (by decide) d_BP_lay_80
        · skip
          have k61 := b2i_f c61
          refine lv_aload_n hx hb d_BP_lay_64 rfl (lv_at hl 1 rfl) ?_
          refine hv_get hE k_BP hI 4 (by decide) w48 h15 rfl d_BP_lay_65 ?_
          refine hv_VN (As := []) (rest := []) hE hml hK hI (c_Marks_clear l hl0 b0 D cA g14 mk rw9 (nI (layF V 10 k.toNatClampNeg X.toInt64 Y.toInt64 (r.1, 0)).2.2) hm9.1) cd_Marks_clear w484 w486 ws14 hm9.1 rfl rfl hl.1 (Nat.le_of_ble_eq_true rfl) d_BP_lay_68 ⟨by decide, by decide⟩ ⟨by decide, by decide⟩ (fun v9 g19 H locs hp hI => ?_) (fun q9 E9 ce9 g9 H locs hp => hp.elim)
          obtain ⟨hv, egc⟩ := hp
          rw [hv]
          refine W.eq (g2 := F0 m 71 ls []) rfl ?_
          have hgk18 : g19 mk = some (.inr (4, [.ref rw9, .int 0])) := by rw [egc]; exact hv_up_self _ _ _
          have hfo : ∀ z, z ≠ mk → z ≠ rw9 → g19 z = f z := fun z z1 z2 => by rw [egc, hv_up_ne _ _ z1]; exact hfo z z1 z2
          have hgm : mkAt cA g19 mk rw9 ((layF V 10 k.toNatClampNeg X.toInt64 Y.toInt64 (r.1, 0)).2.1, 0) := ⟨hgk18, by rw [egc, hv_up_ne _ _ (Ne.symm hmr)]; exact hm9.2⟩
          have h20 : g19 x = some (.inr (0, [.ref la, .int (nI n), .ref ma, .int (nI bn), .ref mk])) := by rw [egc, hv_up_ne _ _ (hv_ne h15 hm9.1 (by simp))]; exact h15
          have h21 : g19 ma = some (.inl (cA 4, 100, .inr (.inr (.inr (.inr gb))))) := by rw [egc, hv_up_ne _ _ (hv_ne h16 hm9.1 (by simp))]; exact h16
          have h22 : g19 rw9 = some (.inl (cA 1, 6000, .inr (.inl ((layF V 10 k.toNatClampNeg X.toInt64 Y.toInt64 (r.1, 0)).2.1)))) := by rw [egc, hv_up_ne _ _ (hv_ne hm9.2 hm9.1 (by simp))]; exact hm9.2
          have h23 : g19 aj = some (boxC V ca pa k.toNatClampNeg) := by rw [egc, hv_up_ne _ _ (hv_ne h17 hm9.1 (by simp))]; exact h17
          refine lv_iconst (v := (-1)) hx hb d_BP_lay_71 (by decide) ?_
          exact hv_iret hE hr hlocks hI hK (v := (-1)) ((show _ ∧ _ ∧ _ ∧ _ ∧ _ ∧ _ by rw [show layR V k.toNatClampNeg X.toInt64 Y.toInt64 r = _ from (if_neg c48).trans (if_neg (by rw [k61]; decide))]; exact ⟨hk, k12, k20, rfl, hgm, hfo⟩)) (by decide) (by decide) d_BP_lay_72
    · skip
      have k20 := b2i_f c20
      exact hv_throw hE hl0 (cls := "java/lang/IllegalArgumentException") (text := "x or y is no size") (names := NMS) (by decide) (by decide) hI hK (hv_thr tw_IAE (by decide)) (by rw [hml]; exact hl.1) d_BP_lay_23 d_BP_lay_26 d_BP_lay_27 d_BP_lay_29 d_BP_lay_32 hout (by decide) (by decide) hlocks (⟨rfl, Or.inr ⟨rfl, hk, by simp [k12, k20]⟩⟩) (by decide) (by decide) (by decide) (by decide)

def okPack (how size gr : Int32) : Bool := !decide (how < 0) && decide (how ≤ 2) && sz size.toInt64 && sz gr.toInt64

set_option maxHeartbeats 4000000 in
set_option maxRecDepth 100000 in
theorem c_BP_pack (l : Launch) (hl0 : l.stackTraces = false) (b0 : Nat) (D : va_G) (cA : Nat → ClassId) (f : hv_M) (x la ma mk n bn : Nat) (bel : Bool) (how size gr : Int32) (gl gb : Nat → Option Nat) (iv : Nat → It) (bi : Nat → Int32 × Int32) (hx0 : f x = some (.inr (0, [.ref la, .int (nI n), .ref ma, .int (nI bn), .ref mk]))) (hla : f la = some (.inl (cA 3, 100, .inr (.inr (.inr (.inr gl)))))) (hma : f ma = some (.inl (cA 4, 100, .inr (.inr (.inr (.inr gb)))))) (hit : itsAt f n gl iv) (hbi : ∀ i, i < n → ∀ t w h d q z, iv i = .inl (t, w, h, d, some q, z) → bxAt f q (bi q)) (hor : ordsIn n iv) (hn : n ≤ 100) (hbn : bn ≤ 100) (hlm : la ≠ ma) : hv_Met l y_BP_pack [Cond.code y_BP_pack b_BP_pack 7 (some FieldType.int)] (RM 5 12 300) b0 (Fa D cA) D CL [.ref x, .int (b2i bel), .int how, .int size, .int gr] f (fun v g => v = some (.int (nI bn)) ∧ okPack how size gr = true ∧ bn < 100 ∧ ∃ (dp al w h d ex od to ov : Int32) (q q1 q2 : Nat) (gc : Nat → Option Nat) (gp : Nat → Int32), initF bi iv n 0 1 (nI n) = (dp, al) ∧ ¬ 10 < dp ∧ fitF bel how size gr iv n = some (w, h, d, ex, od, to, ov, gp) ∧ f q = none ∧ f q1 = none ∧ f q2 = none ∧ g q = some (.inr (1, [.int (b2i bel), .ref q1, .ref q2, .int dp, .int al, .int w, .int h, .int d, .int ex, .int od, .int to, .int ov])) ∧ g q1 = some (.inl (cA 3, n, .inr (.inr (.inr (.inr gc))))) ∧ (∀ j, j < n → gc j = gl j) ∧ g q2 = some (.inl (cA 0, n, .inl gp)) ∧ g ma = some (.inl (cA 4, 100, .inr (.inr (.inr (.inr (va_up gb bn (some q))))))) ∧ g x = some (bpE la ma mk 0 (bn + 1)) ∧ ∀ z y, z ≠ x → z ≠ ma → f z = some y → g z = some y) (fun E g => (∀ z y, f z = some y → g z = some y) ∧ ((E = "java/lang/IllegalArgumentException" ∧ okPack how size gr = false) ∨ (E = "java/lang/UnsupportedOperationException" ∧ okPack how size gr = true ∧ (100 ≤ bn ∨ (bn < 100 ∧ 10 < (initF bi iv n 0 1 (nI n)).1))) ∨ (E = "java/lang/IllegalStateException" ∧ okPack how size gr = true ∧ bn < 100 ∧ ¬ 10 < (initF bi iv n 0 1 (nI n)).1 ∧ fitF bel how size gr iv n = none))) := by
  refine hv_Met.of (own := "BoxPacker") (by decide) rfl (Nat.le_of_ble_eq_true rfl) ?_
  intro p e s m below meth c hE hml hout hr hlocks hname hK hI ls hl
  have hl : lv_has ls 7 [(0, .ref x), (1, .int (b2i bel)), (2, .int how), (3, .int size), (4, .int gr)] := hl
  obtain ⟨hx, hb, hown, hts, hVK⟩ := id hE
  refine lv_iload_n hx hb d_BP_pack_0 rfl (lv_at hl 2 rfl) ?_
  refine lv_if_lt (tgt := 9) hx hb d_BP_pack_1 (by decide) (fun c1 => ?_) (fun c1 => ?_)
  · skip
    exact hv_throw hE hl0 (cls := "java/lang/IllegalArgumentException") (text := "how is not 0 .. 2") (names := NMS) (by decide) (by decide) hI hK (hv_thr tw_IAE (by decide)) (by rw [hml]; exact hl.1) d_BP_pack_9 d_BP_pack_12 d_BP_pack_13 d_BP_pack_15 d_BP_pack_18 hout (by decide) (by decide) hlocks (⟨fun _ _ h => h, Or.inl ⟨rfl, (by simp [okPack, c1])⟩⟩) (by decide) (by decide) (by decide) (by decide)
  · skip
    refine lv_iload_n hx hb d_BP_pack_4 rfl (lv_at hl 2 rfl) ?_
    refine lv_iconst (v := 2) hx hb d_BP_pack_5 (by decide) ?_
    refine lv_icmp_le (tgt := 19) hx hb d_BP_pack_6 (by decide) (fun c6 => ?_) (fun c6 => ?_)
    · skip
      refine lv_iload_n hx hb d_BP_pack_19 rfl (lv_at hl 3 rfl) ?_
      refine lv_i2l (v := size.toInt64) hx hb d_BP_pack_20 rfl ?_
      refine hv_Sp (As := [.long size.toInt64]) (rest := []) hE hml hK hI (c_BP_isSize l hl0 b0 D cA f size.toInt64) cd_BP_isSize w151 w152 rfl rfl rfl hl.1 (Nat.le_of_ble_eq_true rfl) d_BP_pack_21 ⟨by decide, by decide⟩ ⟨by decide, by decide⟩ (fun H locs hI => ?_)
      refine W.eq (g2 := F0 m 24 ls [.int (b2i (sz size.toInt64))]) rfl ?_
      refine lv_if_eq (tgt := 36) hx hb d_BP_pack_24 (by decide) (fun c24 => ?_) (fun c24 => ?_)
      · skip
        have k24 := b2i_f c24
        exact hv_throw hE hl0 (cls := "java/lang/IllegalArgumentException") (text := "the size or the greatest depth is no size") (names := NMS) (by decide) (by decide) hI hK (hv_thr tw_IAE (by decide)) (by rw [hml]; exact hl.1) d_BP_pack_36 d_BP_pack_39 d_BP_pack_40 d_BP_pack_42 d_BP_pack_45 hout (by decide) (by decide) hlocks (⟨fun _ _ h => h, Or.inl ⟨rfl, (by simp [okPack, c1, c6, k24])⟩⟩) (by decide) (by decide) (by decide) (by decide)
      · skip
        have k24 := b2i_t c24
        refine lv_iload hx hb d_BP_pack_27 (lv_at hl 4 rfl) ?_
        refine lv_i2l (v := gr.toInt64) hx hb d_BP_pack_29 rfl ?_
        refine hv_Sp (As := [.long gr.toInt64]) (rest := []) hE hml hK hI (c_BP_isSize l hl0 b0 D cA f gr.toInt64) cd_BP_isSize w151 w152 rfl rfl rfl hl.1 (Nat.le_of_ble_eq_true rfl) d_BP_pack_30 ⟨by decide, by decide⟩ ⟨by decide, by decide⟩ (fun H locs hI => ?_)
        refine W.eq (g2 := F0 m 33 ls [.int (b2i (sz gr.toInt64))]) rfl ?_
        refine lv_if_ne (tgt := 46) hx hb d_BP_pack_33 (by decide) (fun c33 => ?_) (fun c33 => ?_)
        · skip
          have k33 := b2i_t c33
          refine lv_aload_n hx hb d_BP_pack_46 rfl (lv_at hl 0 rfl) ?_
          refine hv_get hE k_BP hI 3 (by decide) w47 hx0 rfl d_BP_pack_47 ?_
          refine lv_bipush (v := 100) hx hb d_BP_pack_50 (by decide) ?_
          refine lv_icmp_lt (tgt := 65) hx hb d_BP_pack_52 (by decide) (fun c52 => ?_) (fun c52 => ?_)
          · skip
            have hb1 : bn < 100 := (nI_lt100 (by omega)).mp c52
            refine hv_new hE k_Box hI w26 w315 w13 (fs := [.int 0, .null, .null, .int 0, .int 0, .int 0, .int 0, .int 0, .int 0, .int 0, .int 0, .int 0]) (by decide +kernel) (by decide) (by decide) d_BP_pack_65 (fun q1 H hnq1 hI => ?_)
            obtain ⟨g2, eg2⟩ : ∃ z : hv_M, z = hv_up f q1 (.inr (1, [.int 0, .null, .null, .int 0, .int 0, .int 0, .int 0, .int 0, .int 0, .int 0, .int 0, .int 0])) := ⟨_, rfl⟩
            have hI : hv_I D CL b0 g2 s.heap H locs := by rw [eg2]; exact hI
            have h3 : g2 x = some (.inr (0, [.ref la, .int (nI n), .ref ma, .int (nI bn), .ref mk])) := by rw [eg2]; rw [hv_up_ne _ _ (hv_nn hx0 hnq1)]; exact hx0
            have h4 : g2 la = some (.inl (cA 3, 100, .inr (.inr (.inr (.inr gl))))) := by rw [eg2]; rw [hv_up_ne _ _ (hv_nn hla hnq1)]; exact hla
            have h5 : g2 ma = some (.inl (cA 4, 100, .inr (.inr (.inr (.inr gb))))) := by rw [eg2]; rw [hv_up_ne _ _ (hv_nn hma hnq1)]; exact hma
            have h6 : g2 q1 = some (.inr (1, [.int 0, .null, .null, .int 0, .int 0, .int 0, .int 0, .int 0, .int 0, .int 0, .int 0, .int 0])) := by rw [eg2]; exact hv_up_self _ _ _
            refine lv_dup hx hb d_BP_pack_68 rfl ?_
            refine lv_iload_n hx hb d_BP_pack_69 rfl (lv_at hl 1 rfl) ?_
            refine lv_aload_n hx hb d_BP_pack_70 rfl (lv_at hl 0 rfl) ?_
            refine hv_get hE k_BP hI 0 (by decide) w44 h3 rfl d_BP_pack_71 ?_
            refine lv_aload_n hx hb d_BP_pack_74 rfl (lv_at hl 0 rfl) ?_
            refine hv_get hE k_BP hI 1 (by decide) w45 h3 rfl d_BP_pack_75 ?_
            have hkp : ∀ z y, f z = some y → g2 z = some y := fun z y hz => by rw [eg2, hv_up_ne _ _ (hv_nn hz hnq1)]; exact hz
            have hitg : itsAt g2 n gl iv := hit.keep (fun z x9 hz => by rw [hkp z _ hz, hz])
            have hbig : ∀ i, i < n → ∀ t w h d q z, iv i = .inl (t, w, h, d, some q, z) → bxAt g2 q (bi q) := fun i hi t w h d q z e9 => by obtain ⟨a1, a2, a3, a4, a5, a6, a7, a8, a9, a10, h9⟩ := hbi i hi t w h d q z e9; exact ⟨a1, a2, a3, a4, a5, a6, a7, a8, a9, a10, hkp _ _ h9⟩
            refine hv_CN (As := [.int (b2i bel), .ref la, .int (nI n)]) (rest := [.ref q1]) hE hml hK hI (c_Box_init l hl0 b0 D cA g2 q1 la n bel gl iv bi h6 h4 hitg hbig hn) cd_Box_init rfl w316 w317 rfl hl.1 (Nat.le_of_ble_eq_true rfl) d_BP_pack_78 ⟨by decide, by decide⟩ ⟨by decide, by decide⟩ (fun v9 g7 H locs hp hI => ?_) (fun q9 E9 ce9 g9 H locs hp => hp.elim)
            obtain ⟨hv, qc, qp, gc, dp, al, hnc, hnp, hcp, hgl, hin9, hgb, hgc, hgp, hfo9⟩ := hp
            rw [hv]
            refine W.eq (g2 := F0 m 81 ls [.ref q1]) rfl ?_
            have hkq : ∀ z y, z ≠ q1 → g2 z = some y → g7 z = some y := fun z y z1 hz => by rw [hfo9 z z1 (hv_nn hz hnc) (hv_nn hz hnp)]; exact hz
            have hkp2 : ∀ z y, f z = some y → g7 z = some y := fun z y hz => hkq z y (hv_nn hz hnq1) (hkp z y hz)
            have hitg : itsAt g7 n gc iv := fun i hi => by obtain ⟨z, z1, z2⟩ := hit i hi; exact ⟨z, by rw [hgl i hi]; exact z1, hkp2 _ _ z2⟩
            have hfc : f qc = none := by cases h9 : f qc with | none => rfl | some y => rw [hkp _ _ h9] at hnc; cases hnc
            have hfp : f qp = none := by cases h9 : f qp with | none => rfl | some y => rw [hkp _ _ h9] at hnp; cases hnp
            have h8 : g7 x = some (.inr (0, [.ref la, .int (nI n), .ref ma, .int (nI bn), .ref mk])) := by rw [hfo9 _ (hv_ne h3 h6 (by simp)) (hv_nn h3 hnc) (hv_nn h3 hnp)]; exact h3
            have h9 : g7 la = some (.inl (cA 3, 100, .inr (.inr (.inr (.inr gl))))) := by rw [hfo9 _ (hv_ne h4 h6 (by simp)) (hv_nn h4 hnc) (hv_nn h4 hnp)]; exact h4
            have h10 : g7 ma = some (.inl (cA 4, 100, .inr (.inr (.inr (.inr gb))))) := by rw [hfo9 _ (hv_ne h5 h6 (by simp)) (hv_nn h5 hnc) (hv_nn h5 hnp)]; exact h5
            refine lv_astore (lv' := [(5, .ref q1), (0, .ref x), (1, .int (b2i bel)), (2, .int how), (3, .int size), (4, .int gr)]) hx hb d_BP_pack_81 hl (by decide) rfl (fun ls hl => ?_)
            refine lv_aload hx hb d_BP_pack_83 (lv_at hl 0 rfl) ?_
            refine hv_getN hE k_Box hI 3 (by decide) w336 hgb rfl d_BP_pack_85 ?_
            refine lv_bipush (v := 10) hx hb d_BP_pack_88 (by decide) ?_
            refine lv_icmp_le (tgt := 103) hx hb d_BP_pack_90 (by decide) (fun c90 => ?_) (fun c90 => ?_)
            · skip
              refine lv_aload hx hb d_BP_pack_103 (lv_at hl 0 rfl) ?_
              refine lv_iload_n hx hb d_BP_pack_105 rfl (lv_at hl 3 rfl) ?_
              refine lv_iload_n hx hb d_BP_pack_106 rfl (lv_at hl 4 rfl) ?_
              refine lv_iload hx hb d_BP_pack_107 (lv_at hl 5 rfl) ?_
              refine hv_VN (As := [.int how, .int size, .int gr]) (rest := []) hE hml hK hI (c_Box_fit l hl0 b0 D cA g7 q1 qc qp n bel dp al how size gr gc iv hgb hgc hgp hitg hor hn) cd_Box_fit w380 w382 ws4 hgb rfl rfl hl.1 (Nat.le_of_ble_eq_true rfl) d_BP_pack_109 ⟨by decide, by decide⟩ ⟨by decide, by decide⟩ (fun v9 g11 H locs hp hI => ?_) (fun q9 E9 ce9 g9 H locs hp hI hce hcv hcl => ?_)
              rotate_left
              · skip
                obtain ⟨hE9, hf9, hk9⟩ := hp
                rw [hE9] at hcl
                exact hv_out hout hlocks hI hK hce hcv hcl ⟨fun z y hz => hk9 z y (hv_nn hz hnq1) (hv_nn hz hfp) (hkp2 z y hz), Or.inr (Or.inr ⟨rfl, (by simp [okPack, c1, c6, k24, k33]), hb1, by rw [hin9]; exact Int32.not_lt.mpr c90, hf9⟩)⟩ (by decide) (by decide)
              obtain ⟨hv, w, h, d, ex, od, to, ov, gp, hft, hgb2, hgp2, hk9⟩ := hp
              rw [hv]
              refine W.eq (g2 := F0 m 112 ls []) rfl ?_
              have hkp3 : ∀ z y, f z = some y → g11 z = some y := fun z y hz => hk9 z y (hv_nn hz hnq1) (hv_nn hz hfp) (hkp2 z y hz)
              have hgc3 := hk9 qc _ (hv_ne hgc hgb (by simp)) hcp hgc
              have hk_x := hkp3 _ _ hx0
              have hk_la := hkp3 _ _ hla
              have hk_ma := hkp3 _ _ hma
              refine lv_aload_n hx hb d_BP_pack_112 rfl (lv_at hl 1 rfl) ?_
              refine hv_get hE k_BP hI 3 (by decide) w47 hk_x rfl d_BP_pack_113 ?_
              refine lv_istore (lv' := [(6, .int (nI bn)), (5, .ref q1), (0, .ref x), (1, .int (b2i bel)), (2, .int how), (3, .int size), (4, .int gr)]) hx hb d_BP_pack_116 hl (by decide) rfl (fun ls hl => ?_)
              refine lv_aload_n hx hb d_BP_pack_118 rfl (lv_at hl 2 rfl) ?_
              refine hv_get hE k_BP hI 2 (by decide) w46 hk_x rfl d_BP_pack_119 ?_
              refine lv_iload hx hb d_BP_pack_122 (lv_at hl 0 rfl) ?_
              refine lv_aload hx hb d_BP_pack_124 (lv_at hl 1 rfl) ?_
              refine hv_aastS hE hI 4 hk_ma rfl hgb2 rfl (pk_in bn 100 hb1 rfl (by omega)) d_BP_pack_126 (fun H locs hI => ?_)
              rw [nI_cl (by omega)] at hI
              obtain ⟨g12, eg12⟩ : ∃ z : hv_M, z = hv_up g11 ma (.inl (cA 4, 100, .inr (.inr (.inr (.inr (va_up gb bn (some q1))))))) := ⟨_, rfl⟩
              have hI : hv_I D CL b0 g12 s.heap H locs := by rw [eg12]; exact hI
              have h13 : g12 x = some (.inr (0, [.ref la, .int (nI n), .ref ma, .int (nI bn), .ref mk])) := by rw [eg12]; rw [hv_up_ne _ _ (hv_ne hk_x hk_ma (by simp))]; exact hk_x
              have h14 : g12 la = some (.inl (cA 3, 100, .inr (.inr (.inr (.inr gl))))) := by rw [eg12]; rw [hv_up_ne _ _ hlm]; exact hk_la
              have h15 : g12 ma = some (.inl (cA 4, 100, .inr (.inr (.inr (.inr (va_up gb bn (some q1))))))) := by rw [eg12]; exact hv_up_self _ _ _
              have h16 : g12 q1 = some (.inr (1, [.int (b2i bel), .ref qc, .ref qp, .int dp, .int al, .int w, .int h, .int d, .int ex, .int od, .int to, .int ov])) := by rw [eg12]; rw [hv_up_ne _ _ (hv_ne hgb2 hk_ma (by simp))]; exact hgb2
              have h17 : g12 qc = some (.inl (cA 3, n, .inr (.inr (.inr (.inr gc))))) := by rw [eg12]; rw [hv_up_ne _ _ (Ne.symm (hv_nn hma hfc))]; exact hgc3
              have h18 : g12 qp = some (.inl (cA 0, n, .inl gp)) := by rw [eg12]; rw [hv_up_ne _ _ (hv_ne hgp2 hk_ma (by simp))]; exact hgp2
              refine lv_aload_n hx hb d_BP_pack_127 rfl (lv_at hl 2 rfl) ?_
              refine lv_dup hx hb d_BP_pack_128 rfl ?_
              refine hv_get hE k_BP hI 3 (by decide) w47 h13 rfl d_BP_pack_129 ?_
              refine lv_iconst (v := 1) hx hb d_BP_pack_132 (by decide) ?_
              refine lv_iadd hx hb d_BP_pack_133 ?_
              refine hv_put hE k_BP hI 3 (by decide) w47 h13 rfl rfl rfl (Nat.le_of_ble_eq_true rfl) d_BP_pack_134 (fun H locs hI => ?_)
              obtain ⟨g19, eg19⟩ : ∃ z : hv_M, z = hv_up g12 x (.inr (0, [.ref la, .int (nI n), .ref ma, .int ((nI bn) + 1), .ref mk])) := ⟨_, rfl⟩
              have hI : hv_I D CL b0 g19 s.heap H locs := by rw [eg19]; exact hI
              have h20 : g19 x = some (.inr (0, [.ref la, .int (nI n), .ref ma, .int ((nI bn) + 1), .ref mk])) := by rw [eg19]; exact hv_up_self _ _ _
              have h21 : g19 la = some (.inl (cA 3, 100, .inr (.inr (.inr (.inr gl))))) := by rw [eg19]; rw [hv_up_ne _ _ (hv_ne h14 h13 (by simp))]; exact h14
              have h22 : g19 ma = some (.inl (cA 4, 100, .inr (.inr (.inr (.inr (va_up gb bn (some q1))))))) := by rw [eg19]; rw [hv_up_ne _ _ (hv_ne h15 h13 (by simp))]; exact h15
              have h23 : g19 q1 = some (.inr (1, [.int (b2i bel), .ref qc, .ref qp, .int dp, .int al, .int w, .int h, .int d, .int ex, .int od, .int to, .int ov])) := by rw [eg19]; rw [hv_up_ne _ _ (hv_ne h16 h13 (by simp))]; exact h16
              have h24 : g19 qc = some (.inl (cA 3, n, .inr (.inr (.inr (.inr gc))))) := by rw [eg19]; rw [hv_up_ne _ _ (hv_ne h17 h13 (by simp))]; exact h17
              have h25 : g19 qp = some (.inl (cA 0, n, .inl gp)) := by rw [eg19]; rw [hv_up_ne _ _ (hv_ne h18 h13 (by simp))]; exact h18
              refine lv_aload_n hx hb d_BP_pack_137 rfl (lv_at hl 2 rfl) ?_
              refine lv_iconst (v := 0) hx hb d_BP_pack_138 (by decide) ?_
              refine hv_put hE k_BP hI 1 (by decide) w45 h20 rfl rfl rfl (Nat.le_of_ble_eq_true rfl) d_BP_pack_139 (fun H locs hI => ?_)
              obtain ⟨g26, eg26⟩ : ∃ z : hv_M, z = hv_up g19 x (.inr (0, [.ref la, .int 0, .ref ma, .int ((nI bn) + 1), .ref mk])) := ⟨_, rfl⟩
              have hI : hv_I D CL b0 g26 s.heap H locs := by rw [eg26]; exact hI
              have h27 : g26 x = some (.inr (0, [.ref la, .int 0, .ref ma, .int ((nI bn) + 1), .ref mk])) := by rw [eg26]; exact hv_up_self _ _ _
              have h28 : g26 la = some (.inl (cA 3, 100, .inr (.inr (.inr (.inr gl))))) := by rw [eg26]; rw [hv_up_ne _ _ (hv_ne h21 h20 (by simp))]; exact h21
              have h29 : g26 ma = some (.inl (cA 4, 100, .inr (.inr (.inr (.inr (va_up gb bn (some q1))))))) := by rw [eg26]; rw [hv_up_ne _ _ (hv_ne h22 h20 (by simp))]; exact h22
              have h30 : g26 q1 = some (.inr (1, [.int (b2i bel), .ref qc, .ref qp, .int dp, .int al, .int w, .int h, .int d, .int ex, .int od, .int to, .int ov])) := by rw [eg26]; rw [hv_up_ne _ _ (hv_ne h23 h20 (by simp))]; exact h23
              have h31 : g26 qc = some (.inl (cA 3, n, .inr (.inr (.inr (.inr gc))))) := by rw [eg26]; rw [hv_up_ne _ _ (hv_ne h24 h20 (by simp))]; exact h24
              have h32 : g26 qp = some (.inl (cA 0, n, .inl gp)) := by rw [eg26]; rw [hv_up_ne _ _ (hv_ne h25 h20 (by simp))]; exact h25
              refine lv_iload hx hb d_BP_pack_142 (lv_at hl 0 rfl) ?_
              have hkp4 : ∀ z y, z ≠ x → z ≠ ma → f z = some y → g26 z = some y := fun z y z1 z2 hz => by rw [eg26, hv_up_ne _ _ z1, eg19, hv_up_ne _ _ z1, eg12, hv_up_ne _ _ z2]; exact hkp3 z y hz
              exact hv_iret hE hr hlocks hI hK (v := nI bn) (⟨rfl, (by simp [okPack, c1, c6, k24, k33]), hb1, dp, al, w, h, d, ex, od, to, ov, q1, qc, qp, gc, gp, hin9, Int32.not_lt.mpr c90, hft, hnq1, hfc, hfp, h30, h31, hgl, h32, h29, by rw [show bpE la ma mk 0 (bn + 1) = .inr (0, [.ref la, .int 0, .ref ma, .int (nI bn + 1), .ref mk]) from by rw [nI_1]; rfl]; exact h27, hkp4⟩) (by decide) (by decide) d_BP_pack_144
            · skip
              exact hv_throw hE hl0 (cls := "java/lang/UnsupportedOperationException") (text := "the box would be more than 10 deep") (names := NMS) (by decide) (by decide) hI hK (hv_thr tw_UOE (by decide)) (by rw [hml]; exact hl.1) d_BP_pack_93 d_BP_pack_96 d_BP_pack_97 d_BP_pack_99 d_BP_pack_102 hout (by decide) (by decide) hlocks (⟨hkp2, Or.inr (Or.inl ⟨rfl, (by simp [okPack, c1, c6, k24, k33]), Or.inr ⟨hb1, by rw [hin9]; exact Int32.not_le.mp c90⟩⟩)⟩) (by decide) (by decide) (by decide) (by decide)
          · skip
            have hb1 : 100 ≤ bn := Nat.le_of_not_lt (fun q => c52 ((nI_lt100 (by omega)).mpr q))
            exact hv_throw hE hl0 (cls := "java/lang/UnsupportedOperationException") (text := "there are 100 boxes") (names := NMS) (by decide) (by decide) hI hK (hv_thr tw_UOE (by decide)) (by rw [hml]; exact hl.1) d_BP_pack_55 d_BP_pack_58 d_BP_pack_59 d_BP_pack_61 d_BP_pack_64 hout (by decide) (by decide) hlocks (⟨fun _ _ h => h, Or.inr (Or.inl ⟨rfl, (by simp [okPack, c1, c6, k24, k33]), Or.inl hb1⟩)⟩) (by decide) (by decide) (by decide) (by decide)
        · skip
          have k33 := b2i_f c33
          exact hv_throw hE hl0 (cls := "java/lang/IllegalArgumentException") (text := "the size or the greatest depth is no size") (names := NMS) (by decide) (by decide) hI hK (hv_thr tw_IAE (by decide)) (by rw [hml]; exact hl.1) d_BP_pack_36 d_BP_pack_39 d_BP_pack_40 d_BP_pack_42 d_BP_pack_45 hout (by decide) (by decide) hlocks (⟨fun _ _ h => h, Or.inl ⟨rfl, (by simp [okPack, c1, c6, k24, k33])⟩⟩) (by decide) (by decide) (by decide) (by decide)
    · skip
      exact hv_throw hE hl0 (cls := "java/lang/IllegalArgumentException") (text := "how is not 0 .. 2") (names := NMS) (by decide) (by decide) hI hK (hv_thr tw_IAE (by decide)) (by rw [hml]; exact hl.1) d_BP_pack_9 d_BP_pack_12 d_BP_pack_13 d_BP_pack_15 d_BP_pack_18 hout (by decide) (by decide) hlocks (⟨fun _ _ h => h, Or.inl ⟨rfl, (by simp [okPack, c1, c6])⟩⟩) (by decide) (by decide) (by decide) (by decide)
end
