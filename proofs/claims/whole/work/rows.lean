section
-- ===== PART A: goes FIRST, ahead of the names: the tables' words, and 'selects' of the private methods out of them =====
/-- a private method of a class that the tables say can be made, by its rows of tables_1 -/
def lw_okq (q : MethodName × Nat) : Prop := (q.1.cls ≠ "java/lang/invoke/MethodHandle" ∧ q.1.cls ≠ "java/lang/invoke/VarHandle") ∧ Cond.instantiable q.1.cls q.2 ∈ tables_1 ∧ Cond.privateMethod q.1 ∈ tables_1 ∧ Cond.instanceMethod q.1 ∈ tables_1
theorem lw_p0 : lw_okq (⟨"java/lang/Throwable", "fillInStackTrace", "(I)Ljava/lang/Throwable;"⟩, 6) := ⟨⟨by decide +kernel, by decide +kernel⟩, List.mem_of_getElem? (i := 122) (by decide +kernel), List.mem_of_getElem? (i := 120) (by decide +kernel), List.mem_of_getElem? (i := 121) (by decide +kernel)⟩
theorem lw_p1 : lw_okq (⟨"BoxPacker", "refuseWhenFull", "()V"⟩, 5) := ⟨⟨by decide +kernel, by decide +kernel⟩, List.mem_of_getElem? (i := 17) (by decide +kernel), List.mem_of_getElem? (i := 158) (by decide +kernel), List.mem_of_getElem? (i := 159) (by decide +kernel)⟩
theorem lw_p2 : lw_okq (⟨"BoxPacker", "append", "(LBoxPacker$Item;)I"⟩, 5) := ⟨⟨by decide +kernel, by decide +kernel⟩, List.mem_of_getElem? (i := 17) (by decide +kernel), List.mem_of_getElem? (i := 217) (by decide +kernel), List.mem_of_getElem? (i := 218) (by decide +kernel)⟩
theorem lw_p3 : lw_okq (⟨"BoxPacker", "boxNumbered", "(I)LBoxPacker$Box;"⟩, 5) := ⟨⟨by decide +kernel, by decide +kernel⟩, List.mem_of_getElem? (i := 17) (by decide +kernel), List.mem_of_getElem? (i := 284) (by decide +kernel), List.mem_of_getElem? (i := 285) (by decide +kernel)⟩
theorem lw_p4 : lw_okq (⟨"BoxPacker$Box", "fit", "(III)V"⟩, 12) := ⟨⟨by decide +kernel, by decide +kernel⟩, List.mem_of_getElem? (i := 315) (by decide +kernel), List.mem_of_getElem? (i := 381) (by decide +kernel), List.mem_of_getElem? (i := 382) (by decide +kernel)⟩
theorem lw_p5 : lw_okq (⟨"BoxPacker$Box", "measureBelow", "(I)V"⟩, 12) := ⟨⟨by decide +kernel, by decide +kernel⟩, List.mem_of_getElem? (i := 315) (by decide +kernel), List.mem_of_getElem? (i := 385) (by decide +kernel), List.mem_of_getElem? (i := 386) (by decide +kernel)⟩
theorem lw_p6 : lw_okq (⟨"BoxPacker$Box", "measureAlong", "()V"⟩, 12) := ⟨⟨by decide +kernel, by decide +kernel⟩, List.mem_of_getElem? (i := 315) (by decide +kernel), List.mem_of_getElem? (i := 415) (by decide +kernel), List.mem_of_getElem? (i := 416) (by decide +kernel)⟩
theorem lw_p7 : lw_okq (⟨"BoxPacker$Box", "gives", "(Z)[I"⟩, 12) := ⟨⟨by decide +kernel, by decide +kernel⟩, List.mem_of_getElem? (i := 315) (by decide +kernel), List.mem_of_getElem? (i := 419) (by decide +kernel), List.mem_of_getElem? (i := 420) (by decide +kernel)⟩
theorem lw_p8 : lw_okq (⟨"BoxPacker$Space", "giveOrder", "(Z)I"⟩, 5) := ⟨⟨by decide +kernel, by decide +kernel⟩, List.mem_of_getElem? (i := 246) (by decide +kernel), List.mem_of_getElem? (i := 423) (by decide +kernel), List.mem_of_getElem? (i := 424) (by decide +kernel)⟩
theorem lw_p9 : lw_okq (⟨"BoxPacker$Space", "give", "(Z)I"⟩, 5) := ⟨⟨by decide +kernel, by decide +kernel⟩, List.mem_of_getElem? (i := 246) (by decide +kernel), List.mem_of_getElem? (i := 427) (by decide +kernel), List.mem_of_getElem? (i := 428) (by decide +kernel)⟩
theorem lw_p10 : lw_okq (⟨"BoxPacker$Box", "fillUp", "(II)V"⟩, 12) := ⟨⟨by decide +kernel, by decide +kernel⟩, List.mem_of_getElem? (i := 315) (by decide +kernel), List.mem_of_getElem? (i := 431) (by decide +kernel), List.mem_of_getElem? (i := 432) (by decide +kernel)⟩
theorem lw_p11 : lw_okq (⟨"BoxPacker$Box", "findTotal", "([I)V"⟩, 12) := ⟨⟨by decide +kernel, by decide +kernel⟩, List.mem_of_getElem? (i := 315) (by decide +kernel), List.mem_of_getElem? (i := 435) (by decide +kernel), List.mem_of_getElem? (i := 436) (by decide +kernel)⟩
theorem lw_p12 : lw_okq (⟨"BoxPacker$Box", "addShares", "()V"⟩, 12) := ⟨⟨by decide +kernel, by decide +kernel⟩, List.mem_of_getElem? (i := 315) (by decide +kernel), List.mem_of_getElem? (i := 439) (by decide +kernel), List.mem_of_getElem? (i := 440) (by decide +kernel)⟩
theorem lw_p13 : lw_okq (⟨"BoxPacker$Box", "badness", "()I"⟩, 12) := ⟨⟨by decide +kernel, by decide +kernel⟩, List.mem_of_getElem? (i := 315) (by decide +kernel), List.mem_of_getElem? (i := 454) (by decide +kernel), List.mem_of_getElem? (i := 455) (by decide +kernel)⟩
theorem lw_p14 : lw_okq (⟨"BoxPacker$Marks", "clear", "()V"⟩, 2) := ⟨⟨by decide +kernel, by decide +kernel⟩, List.mem_of_getElem? (i := 29) (by decide +kernel), List.mem_of_getElem? (i := 485) (by decide +kernel), List.mem_of_getElem? (i := 486) (by decide +kernel)⟩
theorem lw_p15 : lw_okq (⟨"BoxPacker", "layOut", "(LBoxPacker$Box;JJ)Z"⟩, 5) := ⟨⟨by decide +kernel, by decide +kernel⟩, List.mem_of_getElem? (i := 17) (by decide +kernel), List.mem_of_getElem? (i := 489) (by decide +kernel), List.mem_of_getElem? (i := 490) (by decide +kernel)⟩
def lw_privs_1 : List (MethodName × Nat) := [(⟨"java/lang/Throwable", "fillInStackTrace", "(I)Ljava/lang/Throwable;"⟩, 6), (⟨"BoxPacker", "refuseWhenFull", "()V"⟩, 5), (⟨"BoxPacker", "append", "(LBoxPacker$Item;)I"⟩, 5), (⟨"BoxPacker", "boxNumbered", "(I)LBoxPacker$Box;"⟩, 5), (⟨"BoxPacker$Box", "fit", "(III)V"⟩, 12), (⟨"BoxPacker$Box", "measureBelow", "(I)V"⟩, 12), (⟨"BoxPacker$Box", "measureAlong", "()V"⟩, 12), (⟨"BoxPacker$Box", "gives", "(Z)[I"⟩, 12), (⟨"BoxPacker$Space", "giveOrder", "(Z)I"⟩, 5), (⟨"BoxPacker$Space", "give", "(Z)I"⟩, 5), (⟨"BoxPacker$Box", "fillUp", "(II)V"⟩, 12), (⟨"BoxPacker$Box", "findTotal", "([I)V"⟩, 12), (⟨"BoxPacker$Box", "addShares", "()V"⟩, 12), (⟨"BoxPacker$Box", "badness", "()I"⟩, 12), (⟨"BoxPacker$Marks", "clear", "()V"⟩, 2), (⟨"BoxPacker", "layOut", "(LBoxPacker$Box;JJ)Z"⟩, 5)]
theorem lw_r1 : ∀ q ∈ lw_privs_1, lw_okq q := List.forall_mem_cons.mpr ⟨lw_p0, List.forall_mem_cons.mpr ⟨lw_p1, List.forall_mem_cons.mpr ⟨lw_p2, List.forall_mem_cons.mpr ⟨lw_p3, List.forall_mem_cons.mpr ⟨lw_p4, List.forall_mem_cons.mpr ⟨lw_p5, List.forall_mem_cons.mpr ⟨lw_p6, List.forall_mem_cons.mpr ⟨lw_p7, List.forall_mem_cons.mpr ⟨lw_p8, List.forall_mem_cons.mpr ⟨lw_p9, List.forall_mem_cons.mpr ⟨lw_p10, List.forall_mem_cons.mpr ⟨lw_p11, List.forall_mem_cons.mpr ⟨lw_p12, List.forall_mem_cons.mpr ⟨lw_p13, List.forall_mem_cons.mpr ⟨lw_p14, List.forall_mem_cons.mpr ⟨lw_p15, fun _ h => absurd h List.not_mem_nil⟩⟩⟩⟩⟩⟩⟩⟩⟩⟩⟩⟩⟩⟩⟩⟩
theorem lw_p16 : lw_okq (⟨"BoxPacker", "layOutItem", "(LBoxPacker$Box;LBoxPacker$Solid;IJJ)Z"⟩, 5) := ⟨⟨by decide +kernel, by decide +kernel⟩, List.mem_of_getElem? (i := 17) (by decide +kernel), List.mem_of_getElem? (i := 493) (by decide +kernel), List.mem_of_getElem? (i := 494) (by decide +kernel)⟩
theorem lw_p17 : lw_okq (⟨"BoxPacker$Marks", "add", "(IJJIII)Z"⟩, 2) := ⟨⟨by decide +kernel, by decide +kernel⟩, List.mem_of_getElem? (i := 29) (by decide +kernel), List.mem_of_getElem? (i := 498) (by decide +kernel), List.mem_of_getElem? (i := 499) (by decide +kernel)⟩
theorem lw_p18 : lw_okq (⟨"BoxPackerModel", "isFull", "()Z"⟩, 27) := ⟨⟨by decide +kernel, by decide +kernel⟩, List.mem_of_getElem? (i := 511) (by decide +kernel), List.mem_of_getElem? (i := 615) (by decide +kernel), List.mem_of_getElem? (i := 616) (by decide +kernel)⟩
theorem lw_p19 : lw_okq (⟨"BoxPackerModel", "append", "(IIIIII)I"⟩, 27) := ⟨⟨by decide +kernel, by decide +kernel⟩, List.mem_of_getElem? (i := 511) (by decide +kernel), List.mem_of_getElem? (i := 619) (by decide +kernel), List.mem_of_getElem? (i := 620) (by decide +kernel)⟩
theorem lw_p20 : lw_okq (⟨"BoxPackerModel", "isBox", "(I)Z"⟩, 27) := ⟨⟨by decide +kernel, by decide +kernel⟩, List.mem_of_getElem? (i := 511) (by decide +kernel), List.mem_of_getElem? (i := 646) (by decide +kernel), List.mem_of_getElem? (i := 647) (by decide +kernel)⟩
theorem lw_p21 : lw_okq (⟨"BoxPackerModel", "deepest", "()I"⟩, 27) := ⟨⟨by decide +kernel, by decide +kernel⟩, List.mem_of_getElem? (i := 511) (by decide +kernel), List.mem_of_getElem? (i := 662) (by decide +kernel), List.mem_of_getElem? (i := 663) (by decide +kernel)⟩
theorem lw_p22 : lw_okq (⟨"BoxPackerModel", "number", "(II)I"⟩, 27) := ⟨⟨by decide +kernel, by decide +kernel⟩, List.mem_of_getElem? (i := 511) (by decide +kernel), List.mem_of_getElem? (i := 666) (by decide +kernel), List.mem_of_getElem? (i := 667) (by decide +kernel)⟩
theorem lw_p23 : lw_okq (⟨"BoxPackerModel", "clear", "()V"⟩, 27) := ⟨⟨by decide +kernel, by decide +kernel⟩, List.mem_of_getElem? (i := 511) (by decide +kernel), List.mem_of_getElem? (i := 670) (by decide +kernel), List.mem_of_getElem? (i := 671) (by decide +kernel)⟩
theorem lw_p24 : lw_okq (⟨"BoxPackerModel", "add", "(IZ)V"⟩, 27) := ⟨⟨by decide +kernel, by decide +kernel⟩, List.mem_of_getElem? (i := 511) (by decide +kernel), List.mem_of_getElem? (i := 674) (by decide +kernel), List.mem_of_getElem? (i := 675) (by decide +kernel)⟩
theorem lw_p25 : lw_okq (⟨"BoxPackerModel", "isSolid", "(I)Z"⟩, 27) := ⟨⟨by decide +kernel, by decide +kernel⟩, List.mem_of_getElem? (i := 511) (by decide +kernel), List.mem_of_getElem? (i := 678) (by decide +kernel), List.mem_of_getElem? (i := 679) (by decide +kernel)⟩
theorem lw_p26 : lw_okq (⟨"BoxPackerModel", "addSolid", "(IZ)V"⟩, 27) := ⟨⟨by decide +kernel, by decide +kernel⟩, List.mem_of_getElem? (i := 511) (by decide +kernel), List.mem_of_getElem? (i := 682) (by decide +kernel), List.mem_of_getElem? (i := 683) (by decide +kernel)⟩
theorem lw_p27 : lw_okq (⟨"BoxPackerModel", "grow", "(J)V"⟩, 27) := ⟨⟨by decide +kernel, by decide +kernel⟩, List.mem_of_getElem? (i := 511) (by decide +kernel), List.mem_of_getElem? (i := 686) (by decide +kernel), List.mem_of_getElem? (i := 687) (by decide +kernel)⟩
theorem lw_p28 : lw_okq (⟨"BoxPackerModel", "sizeOf", "(II)I"⟩, 27) := ⟨⟨by decide +kernel, by decide +kernel⟩, List.mem_of_getElem? (i := 511) (by decide +kernel), List.mem_of_getElem? (i := 690) (by decide +kernel), List.mem_of_getElem? (i := 691) (by decide +kernel)⟩
theorem lw_p29 : lw_okq (⟨"BoxPackerModel", "solid", "(II)I"⟩, 27) := ⟨⟨by decide +kernel, by decide +kernel⟩, List.mem_of_getElem? (i := 511) (by decide +kernel), List.mem_of_getElem? (i := 694) (by decide +kernel), List.mem_of_getElem? (i := 695) (by decide +kernel)⟩
theorem lw_p30 : lw_okq (⟨"BoxPackerModel", "greater", "(JJ)J"⟩, 27) := ⟨⟨by decide +kernel, by decide +kernel⟩, List.mem_of_getElem? (i := 511) (by decide +kernel), List.mem_of_getElem? (i := 698) (by decide +kernel), List.mem_of_getElem? (i := 699) (by decide +kernel)⟩
theorem lw_p31 : lw_okq (⟨"BoxPackerModel", "setGlue", "(IJ)V"⟩, 27) := ⟨⟨by decide +kernel, by decide +kernel⟩, List.mem_of_getElem? (i := 511) (by decide +kernel), List.mem_of_getElem? (i := 702) (by decide +kernel), List.mem_of_getElem? (i := 703) (by decide +kernel)⟩
def lw_privs_2 : List (MethodName × Nat) := [(⟨"BoxPacker", "layOutItem", "(LBoxPacker$Box;LBoxPacker$Solid;IJJ)Z"⟩, 5), (⟨"BoxPacker$Marks", "add", "(IJJIII)Z"⟩, 2), (⟨"BoxPackerModel", "isFull", "()Z"⟩, 27), (⟨"BoxPackerModel", "append", "(IIIIII)I"⟩, 27), (⟨"BoxPackerModel", "isBox", "(I)Z"⟩, 27), (⟨"BoxPackerModel", "deepest", "()I"⟩, 27), (⟨"BoxPackerModel", "number", "(II)I"⟩, 27), (⟨"BoxPackerModel", "clear", "()V"⟩, 27), (⟨"BoxPackerModel", "add", "(IZ)V"⟩, 27), (⟨"BoxPackerModel", "isSolid", "(I)Z"⟩, 27), (⟨"BoxPackerModel", "addSolid", "(IZ)V"⟩, 27), (⟨"BoxPackerModel", "grow", "(J)V"⟩, 27), (⟨"BoxPackerModel", "sizeOf", "(II)I"⟩, 27), (⟨"BoxPackerModel", "solid", "(II)I"⟩, 27), (⟨"BoxPackerModel", "greater", "(JJ)J"⟩, 27), (⟨"BoxPackerModel", "setGlue", "(IJ)V"⟩, 27)]
theorem lw_r2 : ∀ q ∈ lw_privs_2, lw_okq q := List.forall_mem_cons.mpr ⟨lw_p16, List.forall_mem_cons.mpr ⟨lw_p17, List.forall_mem_cons.mpr ⟨lw_p18, List.forall_mem_cons.mpr ⟨lw_p19, List.forall_mem_cons.mpr ⟨lw_p20, List.forall_mem_cons.mpr ⟨lw_p21, List.forall_mem_cons.mpr ⟨lw_p22, List.forall_mem_cons.mpr ⟨lw_p23, List.forall_mem_cons.mpr ⟨lw_p24, List.forall_mem_cons.mpr ⟨lw_p25, List.forall_mem_cons.mpr ⟨lw_p26, List.forall_mem_cons.mpr ⟨lw_p27, List.forall_mem_cons.mpr ⟨lw_p28, List.forall_mem_cons.mpr ⟨lw_p29, List.forall_mem_cons.mpr ⟨lw_p30, List.forall_mem_cons.mpr ⟨lw_p31, fun _ h => absurd h List.not_mem_nil⟩⟩⟩⟩⟩⟩⟩⟩⟩⟩⟩⟩⟩⟩⟩⟩
theorem lw_p32 : lw_okq (⟨"BoxPackerModel", "countAll", "()I"⟩, 27) := ⟨⟨by decide +kernel, by decide +kernel⟩, List.mem_of_getElem? (i := 511) (by decide +kernel), List.mem_of_getElem? (i := 716) (by decide +kernel), List.mem_of_getElem? (i := 717) (by decide +kernel)⟩
theorem lw_p33 : lw_okq (⟨"BoxPackerModel", "placeOf", "(II)J"⟩, 27) := ⟨⟨by decide +kernel, by decide +kernel⟩, List.mem_of_getElem? (i := 511) (by decide +kernel), List.mem_of_getElem? (i := 733) (by decide +kernel), List.mem_of_getElem? (i := 734) (by decide +kernel)⟩
theorem lw_p34 : lw_okq (⟨"BoxPackerModel", "layBox", "(IJJ)Z"⟩, 27) := ⟨⟨by decide +kernel, by decide +kernel⟩, List.mem_of_getElem? (i := 511) (by decide +kernel), List.mem_of_getElem? (i := 744) (by decide +kernel), List.mem_of_getElem? (i := 745) (by decide +kernel)⟩
theorem lw_p35 : lw_okq (⟨"BoxPackerModel", "note", "(IJJJJJ)Z"⟩, 27) := ⟨⟨by decide +kernel, by decide +kernel⟩, List.mem_of_getElem? (i := 511) (by decide +kernel), List.mem_of_getElem? (i := 748) (by decide +kernel), List.mem_of_getElem? (i := 749) (by decide +kernel)⟩
theorem lw_p36 : lw_okq (⟨"BoxPackerModel", "ruled", "(III)J"⟩, 27) := ⟨⟨by decide +kernel, by decide +kernel⟩, List.mem_of_getElem? (i := 511) (by decide +kernel), List.mem_of_getElem? (i := 752) (by decide +kernel), List.mem_of_getElem? (i := 753) (by decide +kernel)⟩
def lw_privs_3 : List (MethodName × Nat) := [(⟨"BoxPackerModel", "countAll", "()I"⟩, 27), (⟨"BoxPackerModel", "placeOf", "(II)J"⟩, 27), (⟨"BoxPackerModel", "layBox", "(IJJ)Z"⟩, 27), (⟨"BoxPackerModel", "note", "(IJJJJJ)Z"⟩, 27), (⟨"BoxPackerModel", "ruled", "(III)J"⟩, 27)]
theorem lw_r3 : ∀ q ∈ lw_privs_3, lw_okq q := List.forall_mem_cons.mpr ⟨lw_p32, List.forall_mem_cons.mpr ⟨lw_p33, List.forall_mem_cons.mpr ⟨lw_p34, List.forall_mem_cons.mpr ⟨lw_p35, List.forall_mem_cons.mpr ⟨lw_p36, fun _ h => absurd h List.not_mem_nil⟩⟩⟩⟩⟩
def lw_privs : List (MethodName × Nat) := lw_privs_1 ++ (lw_privs_2 ++ (lw_privs_3))
def lw_tbl : List Cond := k2_sels lw_privs ++ tables_1
theorem lw_privs_ok : ∀ q ∈ lw_privs, lw_okq q := by
  show ∀ q ∈ lw_privs_1 ++ (lw_privs_2 ++ (lw_privs_3)), lw_okq q
  exact List.forall_mem_append.mpr ⟨lw_r1, List.forall_mem_append.mpr ⟨lw_r2, lw_r3⟩⟩
end
section
/-! ===== outcomes: a method returns or throws; one contract says both ===== -/
/-- what is left behind a call, however it ended: warmer tables, the written slots L, at most mc cells of ms slots more -/
def xh_End (st t : State) (mc ms : Nat) (free : Addr → Prop) : Prop :=
  ∃ L : List Loc, st.WarmedH t.vm ∧ st.sameButNew ({ t with vm := st.vm } : State) L mc ms ∧ ∀ z ∈ L, free z.base
/-- the contract: from Pc the method comes to an end o with Qc -/
def xh_Met (l : Launch) (y : MethodName) (ws : List Cond) (rm : Room) (Pc : Array Value → State → Prop) (Qc : State → Outcome → State → Prop) (free : Addr → Prop) : Prop :=
  MetFree l y (headSpec ws rm) Pc (fun _ _ _ _ _ => True) (fun _ st o t => Qc st o t ∧ xh_End st t rm.cells rm.slots free)
/-- what a body owes at its end -/
def xh_MQ (below : List Frame) (Qc : State → Outcome → State → Prop) (s : State) (mc ms : Nat) (free : Addr → Prop) : State → Prop := fun t =>
  ∃ o, t.status = .running ∧ Ended t below o ∧ Qc s o t ∧ xh_End s t mc ms free
section XHA
variable {l : Launch} {y : MethodName} {ws ws' : List Cond} {rm : Room} {Pc : Array Value → State → Prop} {Qc : State → Outcome → State → Prop} {free : Addr → Prop} {cc : ByteArray} {maxL : Nat} {ret : Option FieldType}
/-- a body without handlers -/
theorem xh_Met.ofW (hy : plainName y.cls = true) (hw : ws = Cond.code y cc maxL ret :: ws')
    (body : ∀ p e s m args below meth c s₁, BodyLoose p l y (headSpec ws rm) cc maxL ret e s m args below meth c s₁ → c.maxLocals = maxL → c.exceptionTable.toList = [] → Pc args s →
      W p l e rm s m args below meth c s.heap [] 0 0 (xh_MQ below Qc s rm.cells rm.slots free) (entryFrame m args maxL)) : xh_Met l y ws rm Pc Qc free := by
  refine MetFree.of_bodyS (code := cc) (maxLocals := maxL) (ret := ret) hy ?_ ?_
  · intro args s m h hn
    obtain ⟨meth, c, h1, h2, h3, h4, h5, h6, -, -⟩ := Cond.code_spec hn (atoms_spec (ws := ws) h _ (by rw [hw]; exact List.mem_cons_self))
    exact ⟨meth, c, h1, h2, h3, h4, h5, h6⟩
  · intro p e s m args below meth c s₁ B hml hP _
    have hh0 : s₁.heap = s.heap := by rw [B.state]; rfl
    have hx : c.exceptionTable.isEmpty = true := B.noHandlers (atoms_spec (ws := ws) B.pre _ (by rw [hw]; exact List.mem_cons_self))
    have hx2 : c.exceptionTable.toList = [] := by
      have h0 : c.exceptionTable.size = 0 := by simpa [Array.isEmpty] using hx
      exact List.eq_nil_of_length_eq_zero (by simpa using h0)
    obtain ⟨t, a1, o, b1, b2, b3⟩ := body p e s m args below meth c s₁ B hml hx2 hP s₁ hh0 (Stand.of_body B)
    exact ⟨t, o, a1, b1, b2, b3⟩
/-- a body with the handlers hh -/
theorem xh_Met.ofH {hh : List (Nat × Nat × Nat × Nat)} (hy : plainName y.cls = true) (hw : ws = Cond.codeWith y cc maxL ret hh :: ws')
    (body : ∀ p e s m args below meth c s₁, BodyLoose p l y (headSpec ws rm) cc maxL ret e s m args below meth c s₁ → c.maxLocals = maxL → c.exceptionTable.toList.map (fun h => (h.startPc, h.endPc, h.handlerPc, h.catchType)) = hh → Pc args s →
      W p l e rm s m args below meth c s.heap [] 0 0 (xh_MQ below Qc s rm.cells rm.slots free) (entryFrame m args maxL)) : xh_Met l y ws rm Pc Qc free := by
  refine MetFree.of_bodyS (code := cc) (maxLocals := maxL) (ret := ret) hy ?_ ?_
  · intro args s m h hn
    obtain ⟨m9, meth, c, hn9, h1, h2, h3, h4, -, h5, h6, -⟩ := Cond.codeWith_spec (atoms_spec (ws := ws) h _ (by rw [hw]; exact List.mem_cons_self))
    cases hn.symm.trans hn9
    exact ⟨meth, c, h1, h2, h3, h4, h5, h6⟩
  · intro p e s m args below meth c s₁ B hml hP _
    have hh0 : s₁.heap = s.heap := by rw [B.state]; rfl
    obtain ⟨m9, meth9, c9, hn9, h1, h2, -, -, h7, -⟩ := Cond.codeWith_spec (atoms_spec (ws := ws) B.pre _ (by rw [hw]; exact List.mem_cons_self))
    cases B.named.symm.trans hn9
    cases B.method.symm.trans h1
    cases (Stand.of_body B).code.symm.trans h2
    obtain ⟨t, a1, o, b1, b2, b3⟩ := body p e s m args below meth c s₁ B hml h7 hP s₁ hh0 (Stand.of_body B)
    exact ⟨t, o, a1, b1, b2, b3⟩
end XHA
section XHB
variable {p : Program} {l : Launch} {e : Env} {R : Room} {s : State} {m : MethodId} {args : Array Value} {below : List Frame} {meth : Method} {c : Code} {H : Heap} {locs : List Loc} {cells slots : Nat} {Q : State → Prop}
variable {Qc : State → Outcome → State → Prop} {free : Addr → Prop} {mc ms : Nat}
/-- the kit's returns, under this end -/
theorem xh_ret {g : JFrame} (hc : cells ≤ mc) (hs : slots ≤ ms) (k : W p l e R s m args below meth c H locs cells slots (MQ below (fun _ st o t => Qc st o t) args s cells slots free) g) : W p l e R s m args below meth c H locs cells slots (xh_MQ below Qc s mc ms free) g := by
  intro T hT X
  obtain ⟨t, a1, o, b1, b2, b3, L, ⟨-, hW, hsm⟩, hL⟩ := k T hT X
  exact ⟨t, a1, o, b1, b2, b3, L, hW, hsm.mono hc hs, hL⟩
/-- the frame g stands, and q is being thrown over it -/
def xh_W (p : Program) (l : Launch) (e : Env) (R : Room) (s : State) (m : MethodId) (args : Array Value) (below : List Frame) (meth : Method) (c : Code) (H : Heap) (locs : List Loc) (cells slots : Nat) (Q : State → Prop) (g : JFrame) (q : Addr) : Prop :=
  ∀ T : State, T.heap = H → Stand p l e R s m args below meth c T locs cells slots → ∃ t, Steps p.tables e below ((T.setTop g).pushFrame (.throwing q)) t ∧ Q t
theorem xh_W.widen {g : JFrame} {q : Addr} {k n : Nat} (h1 : cells ≤ k) (h2 : slots ≤ n) (kk : xh_W p l e R s m args below meth c H locs k n Q g q) : xh_W p l e R s m args below meth c H locs cells slots Q g q := fun T hT X => kk T hT (stand_widen X h1 h2)
/-- nothing here catches it: the method ends with it -/
theorem xh_out {pc : Nat} {ls : Array Slot} {rest : List Value} {q : Addr} (hout : c.exceptionTable.toList = []) (hlocks : meth.locks = false) (hq : ∀ t : State, t.heap = H → s.WarmedH t.vm → Qc s (.threw q) t) (hf : ∀ z ∈ locs, free z.base) (hc : cells ≤ mc) (hs : slots ≤ ms) :
    xh_W p l e R s m args below meth c H locs cells slots (xh_MQ below Qc s mc ms free) (F0 m pc ls rest) q := by
  intro T hT X
  obtain ⟨st1, hrun, hend, hW, hsm⟩ := X.leaveThrown q (g := F0 m pc ls rest) rfl rfl rfl (by rw [hout]; intro x hx; cases hx) hlocks
  exact ⟨_, st1, .threw q, hrun, hend, hq _ hT hW, locs, hW, hsm.mono hc hs, hf⟩
end XHB
section XHC
variable {l : Launch} {R : Room} {p : Program} {e : Env} {below : List Frame} {s : State} {sargs : Array Value} {m : MethodId} {meth : Method} {c : Code} {U : State} {Ls : List Loc} {c0 s0 : Nat}
variable {y : MethodName} {ws : List Cond} {rm : Room} {Pc : Array Value → State → Prop} {Qc : State → Outcome → State → Prop} {free : Addr → Prop} {bytes : ByteArray} {maxL : Nat} {ret : Option FieldType} {hh : List (Nat × Nat × Nat × Nat)}
/-- where the caller stands behind the call: at the next instruction with the answer, or with q thrown over it -/
def xh_to (V : State) (g : JFrame) (len : Nat) : Outcome → State
  | .returned v => V.setTop { g with pc := g.pc + len, stack := v.toList ++ g.stack }
  | .threw q => (V.setTop g).pushFrame (.throwing q)
/-- a contract pays a call -/
theorem xh_back {g : JFrame} {ig : Instr} {len W9 : Nat} {mk : MethodId} {a : Array Value} (hM : xh_Met l y ws rm Pc Qc free) (X : Stand p l e R s m sargs below meth c U Ls c0 s0)
    (hg : g.method = m) (hsize : g.locals.size = c.maxLocals) (hdg : decode c.code g.pc = .ok (ig, len)) (hW9 : 2 * g.monitorRoom + (g.stack.map fun v => v.category).sum ≤ W9) (hn : U.methodNamed? y = some mk)
    (hws : ∀ w ∈ ws, w.before a U = true) (hcode : (Cond.codeWith y bytes maxL ret hh).before a U = true) (hini : (Cond.initialized y.cls).before a U = true)
    (hframes : rm.frames + 1 ≤ R.frames) (hlocals : W9 + (maxL + 11) + rm.locals ≤ R.locals) (hcells : c0 + rm.cells ≤ R.cells) (hslots : s0 + rm.slots ≤ R.slots) (hPc : Pc a (U.calling g mk a)) :
    ∃ (o : Outcome) (t V : State) (L : List Loc), Stand p l e R s m sargs below meth c V (Ls ++ L) (c0 + rm.cells) (s0 + rm.slots) ∧ V.heap = t.heap ∧ V.vm = t.vm ∧ (∀ z ∈ L, free z.base) ∧ Qc (U.calling g mk a) o t ∧
      Steps p.tables e below (doInvoke e (U.setTop g) [] mk a).1 (xh_to V g len o) := by
  obtain ⟨m9, methY, cY, hn9, hmY, hcY, -, hlY, -⟩ := Cond.codeWith_spec hcode
  cases hn.symm.trans hn9
  obtain ⟨kY, hkY, -⟩ := className_of_methodNamed hn
  have hinitY : kY.init = .initialized := Cond.initialized_spec (findClass_of_methodNamed hn) hkY hini
  subst hg
  have h : At U g.method c below := X.here
  have happ : (headSpec ws rm).appliesLoose y e.platform (U.calling g mk a) = true :=
    Spec.appliesLoose_calling (g := g) h hdg hn hkY hinitY (X.room_calling (g := g) (R' := rm) hsize hmY hcY hframes (by rw [hlY]; omega) hcells hslots) (atoms_intro hws)
  obtain ⟨mid, hmid⟩ := h.above
  have hfr : (U.setTop g).frames = (.java g :: mid) ++ below := by rw [State.frames_setTop' g h.top, hmid]; rfl
  obtain ⟨o, s₂, hsteps, -, hend, hq, L, hWm, hsm, hL⟩ := Steps.callFree hM p X.admits X.cas X.clock (acts := []) hfr happ hPc trivial
  rw [State.frames_setTop' g h.top] at hend
  obtain ⟨g₀, hg0⟩ := Option.isSome_iff_exists.mp h.top
  obtain ⟨r, hr⟩ := State.topJava?_eq_some.mp hg0
  obtain ⟨th, hth, -⟩ := State.frames_cons hr
  have hW' : U.WarmedH s₂.vm := hWm
  have hsm' : (U.calling g mk a).sameButNew ({ s₂ with vm := (U.calling g mk a).vm } : State) L rm.cells rm.slots := hsm
  obtain ⟨e2, q2⟩ := hsm'
  obtain ⟨V, hV⟩ : ∃ V : State, V = ({ U with heap := s₂.heap, slotsUsed := s₂.slotsUsed } : State).setVm s₂.vm := ⟨_, rfl⟩
  have hVfr : V.frames = .java g₀ :: r := by rw [hV]; exact hr
  have e3 : s₂ = V.setFrames s₂.frames := by
    have e4 : s₂ = ({ s₂ with vm := (U.calling g mk a).vm } : State).setVm s₂.vm := rfl
    rw [e2] at e4
    refine e4.trans ?_
    rw [hV, State.calling_eq h.top, State.setFrames_setFrames]
    rfl
  have hsame : U.sameButNew (V.setVm U.vm) L rm.cells rm.slots := by
    refine ⟨?_, ?_⟩
    · rw [hV]
      show ({ U with heap := s₂.heap, slotsUsed := s₂.slotsUsed } : State) = { U.setFrames U.frames with heap := s₂.heap, slotsUsed := s₂.slotsUsed }
      rw [State.setFrames_self hth]
    · rw [hV]
      exact q2
  have XV : Stand p l e R s g.method sargs below meth c V (Ls ++ L) (c0 + rm.cells) (s0 + rm.slots) :=
    X.moved (by rw [hV]; exact (X.here.setHeapUsed s₂.heap s₂.slotsUsed).setVm hW'.alike) (by rw [hV]; exact X.tail) (by rw [hV]; rfl) (by rw [hV]; rfl) (by rw [hV]; exact hW') hsame
  refine ⟨o, s₂, V, L, XV, by rw [hV]; rfl, by rw [hV]; rfl, hL, hq, ?_⟩
  cases o with
  | returned v =>
    obtain ⟨c₂, i₂, len₂, hc₂, hd₂, hf₂⟩ := hend
    have hcc : c₂ = c := by
      have h1 : s₂.code? g.method = U.code? g.method := by rw [State.code?_eq, State.code?_eq, hW'.alike.method?]
      exact Option.some.inj (hc₂.symm.trans (h1.trans h.code))
    subst hcc
    have hlen : len₂ = len := by rw [hdg] at hd₂; cases hd₂; rfl
    subst hlen
    show Steps p.tables e below _ (V.setTop { g with pc := g.pc + len₂, stack := v.toList ++ g.stack })
    rw [State.setTop_of_frames _ hVfr, show r = U.frames.tail by rw [hr]; rfl, ← hf₂, ← e3]
    exact hsteps
  | threw q =>
    have hf₂ : s₂.frames = .throwing q :: .java g :: U.frames.tail := hend
    show Steps p.tables e below _ ((V.setTop g).pushFrame (.throwing q))
    rw [State.pushFrame, State.frames_setTop _ hVfr, State.setTop_of_frames _ hVfr, State.setFrames_setFrames, show r = U.frames.tail by rw [hr]; rfl, ← hf₂, ← e3]
    exact hsteps
end XHC
end
section
/-! ===== calls of methods that return or throw ===== -/
theorem xh_cw {y : MethodName} {b : ByteArray} {n : Nat} {r : Option FieldType} {a : Array Value} {s : State} (h : (Cond.code y b n r).before a s = true) : (Cond.codeWith y b n r []).before a s = true := by
  unfold Cond.before Cond.holds at h ⊢
  rw [← Cond.code_iff_codeWith_nil]
  exact h
/-- what a caller must know of the callee -/
def xh_CB (R : Room) (s : State) (y : MethodName) (bytes : ByteArray) (maxL : Nat) (ret : Option FieldType) (hh : List (Nat × Nat × Nat × Nat)) (ws : List Cond) (rm : Room) (n : Nat) : Prop :=
  rm.frames + 1 ≤ R.frames ∧ 8 + (maxL + 11) + rm.locals ≤ R.locals ∧ (∀ w ∈ ws, ∀ (a' : Array Value) (U : State), s.WarmedH U.vm → w.before a' U = true) ∧ (∀ (a' : Array Value) (U : State), s.WarmedH U.vm → (Cond.codeWith y bytes maxL ret hh).before a' U = true) ∧
  (∀ (a' : Array Value) (U : State), s.WarmedH U.vm → (Cond.initialized y.cls).before a' U = true) ∧ (y.cls ≠ "java/lang/invoke/MethodHandle" ∧ y.cls ≠ "java/lang/invoke/VarHandle") ∧ (∀ sig, parseMethodDescriptor y.desc = some sig → n = sig.parameters.length)
/-- words that stay, in warmer tables -/
theorem xh_warm {Ts : List Cond} {args : Array Value} {s : State} (hgood : ∀ w ∈ Ts, goodWord w = true) (hts : ∀ w ∈ Ts, w.before args s = true) : ∀ w ∈ Ts, ∀ (a' : Array Value) (U : State), s.WarmedH U.vm → w.before a' U = true :=
  fun w hw a' U hW => word_at hW (good_of_word (hgood w hw)) (hts w hw)
theorem xh_CB.code {R : Room} {s : State} {args : Array Value} {y : MethodName} {bytes : ByteArray} {maxL : Nat} {ret : Option FieldType} {Ts : List Cond} {rm : Room} {n : Nat} (hgood : ∀ w ∈ Ts, goodWord w = true) (hts : ∀ w ∈ Ts, w.before args s = true)
    (hc : Cond.code y bytes maxL ret ∈ Ts) (hi : Cond.initialized y.cls ∈ Ts) (hd : y.cls ≠ "java/lang/invoke/MethodHandle" ∧ y.cls ≠ "java/lang/invoke/VarHandle" ∧ (parseMethodDescriptor y.desc).map (fun d => d.parameters.length) = some n)
    (hR : rm.frames + 1 ≤ R.frames ∧ 8 + (maxL + 11) + rm.locals ≤ R.locals) : xh_CB R s y bytes maxL ret [] (Cond.code y bytes maxL ret :: Ts) rm n := by
  have hw := xh_warm hgood hts
  refine ⟨hR.1, hR.2, fun w h => ?_, fun a' U hW => xh_cw (hw _ hc a' U hW), hw _ hi, ⟨hd.1, hd.2.1⟩, fun sig h => ?_⟩
  · rcases List.mem_cons.mp h with rfl | h
    · exact hw _ hc
    · exact hw _ h
  · have h2 := hd.2.2
    rw [h] at h2
    exact (Option.some.inj h2).symm
/-- the call at g, whose arguments lie over rest -/
def xh_Run (p : Program) (l : Launch) (e : Env) (R : Room) (s : State) (m : MethodId) (args : Array Value) (below : List Frame) (meth : Method) (c : Code) (H : Heap) (locs : List Loc) (cells slots : Nat) (g : JFrame) (rest : List Value) (rm : Room) (Qc : State → Outcome → State → Prop) (free : Addr → Prop) : Prop :=
  ∀ T : State, T.heap = H → Stand p l e R s m args below meth c T locs cells slots → ∃ (o : Outcome) (st t V : State) (L : List Loc), st.heap = H ∧ s.WarmedH st.vm ∧ Stand p l e R s m args below meth c V (locs ++ L) (cells + rm.cells) (slots + rm.slots) ∧ V.heap = t.heap ∧ V.vm = t.vm ∧ (∀ z ∈ L, free z.base) ∧ Qc st o t ∧
    Steps p.tables e below (T.setTop g) (xh_to V { g with stack := rest } 3 o)
section XHD
variable {p : Program} {l : Launch} {e : Env} {R : Room} {s : State} {m : MethodId} {args : Array Value} {below : List Frame} {meth : Method} {c : Code} {H : Heap} {locs : List Loc} {cells slots : Nat}
variable {y : MethodName} {ws : List Cond} {rm : Room} {Pc : Array Value → State → Prop} {Qc : State → Outcome → State → Prop} {free : Addr → Prop} {bytes cc : ByteArray} {maxL nL n index pc : Nat} {ret : Option FieldType} {hh : List (Nat × Nat × Nat × Nat)} {own host C : String} {b : Addr} {As rest : List Value} {ls : Array Slot}
/-- a virtual call, the method being the named one -/
theorem xh_runV (hx : p.tables.exec = Jvm.exec) (hb : c.code = cc) (hml : c.maxLocals = nL) (hown : s.vm.findClass own = some m.cls) (hM : xh_Met l y ws rm Pc Qc free) (cb : xh_CB R s y bytes maxL ret hh ws rm n)
    (hlink : (Cond.methodLink own index y).before args s = true) (hinst : (Cond.instanceMethod y).before args s = true) (hsel : (Cond.selects C y y).before args s = true) (hbl : FrameBlind Pc)
    (hrecv : ∃ cellB : Cell, H[b]? = some cellB ∧ cellB.vm.isStatics = false ∧ s.vm.findClass C = some cellB.cls) (hPc : ∀ U : State, U.heap = H → s.WarmedH U.vm → Pc (Value.ref b :: As).toArray U)
    (hn : As.length = n) (hsize : ls.size = nL) (hW9 : 2 * (F0 m pc ls rest).monitorRoom + (rest.map fun v => v.category).sum ≤ 8) (hdg : decode cc pc = .ok (.invokevirtual index, 3)) (hf : cells + rm.cells ≤ R.cells ∧ slots + rm.slots ≤ R.slots) :
    xh_Run p l e R s m args below meth c H locs cells slots (F0 m pc ls (As.reverse ++ .ref b :: rest)) rest rm Qc free := by
  intro T hT X
  obtain ⟨hfr, hlo, hws, hcw, hini, hy, hlen⟩ := cb
  obtain ⟨mk, methM, hnamed, hmethM, hstM, habM⟩ := Cond.instanceMethod_spec hinst
  obtain ⟨m9, meth9, c9, hn9, hm9, -, -, -, -, -, -, hsigM⟩ := Cond.codeWith_spec (hcw args s (State.WarmedH.refl s))
  cases hnamed.symm.trans hn9
  cases hmethM.symm.trans hm9
  obtain ⟨c2, r2, m2, q1, q2, q3, q4, kP, hkP, hkPi⟩ := Cond.selects_spec hsel
  obtain ⟨cellB, hcB, hoB, hclB⟩ := hrecv
  cases hclB.symm.trans q1
  cases (State.methodFound?_of_named hnamed hy).symm.trans q2
  cases hnamed.symm.trans q3
  have hselP : selectMethod e.platform s.vm cellB.cls mk = .method mk := by rw [Launch.admits_selectMethod X.admits]; exact q4
  have hdg' : decode c.code pc = .ok (.invokevirtual index, 3) := by rw [hb]; exact hdg
  obtain ⟨vm₁, X₁, hstep₁⟩ := X.invokevirtual hx hown hlink hnamed hmethM hstM hkP hkPi hy (a := b) (cell := cellB) (by rw [hT]; exact hcB) (fun z h => by rw [h] at hoB; cases hoB) hselP hmethM habM hkP hkPi
    (g := F0 m pc ls (As.reverse ++ .ref b :: rest)) rfl (argsL := As) (rest := rest) (hn.trans (hlen _ hsigM)) rfl hdg'
  obtain ⟨o, t, V, L, XV, e1, e2, hL, hq, hst⟩ := xh_back hM X₁ (g := F0 m pc ls rest) (W9 := 8) (a := (Value.ref b :: As).toArray) rfl (hsize.trans hml.symm) hdg' hW9 (X₁.named hnamed) (fun w hw => hws w hw _ _ X₁.warmed) (hcw _ _ X₁.warmed) (hini _ _ X₁.warmed) hfr hlo hf.1 hf.2
    (hbl _ _ _ _ (hPc (T.setVm vm₁) hT X₁.warmed))
  exact ⟨o, (T.setVm vm₁).calling (F0 m pc ls rest) mk (Value.ref b :: As).toArray, t, V, L, hT, X₁.warmed, XV, e1, e2, hL, hq, hstep₁ _ fun acts => by rw [doInvoke_state]; exact hst⟩
/-- a virtual call of a nest mate's private method -/
theorem xh_runVN (hx : p.tables.exec = Jvm.exec) (hb : c.code = cc) (hml : c.maxLocals = nL) (hown : s.vm.findClass own = some m.cls) (hM : xh_Met l y ws rm Pc Qc free) (cb : xh_CB R s y bytes maxL ret hh ws rm n)
    (hlink : (Cond.methodLinkNest own index y host).before args s = true) (hinst : (Cond.instanceMethod y).before args s = true) (hsel : (Cond.selects C y y).before args s = true) (hbl : FrameBlind Pc)
    (hrecv : ∃ cellB : Cell, H[b]? = some cellB ∧ cellB.vm.isStatics = false ∧ s.vm.findClass C = some cellB.cls) (hPc : ∀ U : State, U.heap = H → s.WarmedH U.vm → Pc (Value.ref b :: As).toArray U)
    (hn : As.length = n) (hsize : ls.size = nL) (hW9 : 2 * (F0 m pc ls rest).monitorRoom + (rest.map fun v => v.category).sum ≤ 8) (hdg : decode cc pc = .ok (.invokevirtual index, 3)) (hf : cells + rm.cells ≤ R.cells ∧ slots + rm.slots ≤ R.slots) :
    xh_Run p l e R s m args below meth c H locs cells slots (F0 m pc ls (As.reverse ++ .ref b :: rest)) rest rm Qc free := by
  intro T hT X
  obtain ⟨hfr, hlo, hws, hcw, hini, hy, hlen⟩ := cb
  obtain ⟨mk, methM, hnamed, hmethM, hstM, habM⟩ := Cond.instanceMethod_spec hinst
  obtain ⟨m9, meth9, c9, hn9, hm9, -, -, -, -, -, -, hsigM⟩ := Cond.codeWith_spec (hcw args s (State.WarmedH.refl s))
  cases hnamed.symm.trans hn9
  cases hmethM.symm.trans hm9
  obtain ⟨c2, r2, m2, q1, q2, q3, q4, kP, hkP, hkPi⟩ := Cond.selects_spec hsel
  obtain ⟨cellB, hcB, hoB, hclB⟩ := hrecv
  cases hclB.symm.trans q1
  cases (State.methodFound?_of_named hnamed hy).symm.trans q2
  cases hnamed.symm.trans q3
  have hselP : selectMethod e.platform s.vm cellB.cls mk = .method mk := by rw [Launch.admits_selectMethod X.admits]; exact q4
  have hdg' : decode c.code pc = .ok (.invokevirtual index, 3) := by rw [hb]; exact hdg
  obtain ⟨vm₁, X₁, hstep₁⟩ := X.invokevirtualNest hx hown hlink hnamed hmethM hstM hkP hkPi hy (a := b) (cell := cellB) (by rw [hT]; exact hcB) (fun z h => by rw [h] at hoB; cases hoB) hselP hmethM habM hkP hkPi
    (g := F0 m pc ls (As.reverse ++ .ref b :: rest)) rfl (argsL := As) (rest := rest) (hn.trans (hlen _ hsigM)) rfl hdg'
  obtain ⟨o, t, V, L, XV, e1, e2, hL, hq, hst⟩ := xh_back hM X₁ (g := F0 m pc ls rest) (W9 := 8) (a := (Value.ref b :: As).toArray) rfl (hsize.trans hml.symm) hdg' hW9 (X₁.named hnamed) (fun w hw => hws w hw _ _ X₁.warmed) (hcw _ _ X₁.warmed) (hini _ _ X₁.warmed) hfr hlo hf.1 hf.2
    (hbl _ _ _ _ (hPc (T.setVm vm₁) hT X₁.warmed))
  exact ⟨o, (T.setVm vm₁).calling (F0 m pc ls rest) mk (Value.ref b :: As).toArray, t, V, L, hT, X₁.warmed, XV, e1, e2, hL, hq, hstep₁ _ fun acts => by rw [doInvoke_state]; exact hst⟩
/-- a static call -/
theorem xh_runS (hx : p.tables.exec = Jvm.exec) (hb : c.code = cc) (hml : c.maxLocals = nL) (hown : s.vm.findClass own = some m.cls) (hM : xh_Met l y ws rm Pc Qc free) (cb : xh_CB R s y bytes maxL ret hh ws rm n)
    (hlink : (Cond.methodLink own index y).before args s = true) (hstat : (Cond.static y).before args s = true) (hbl : FrameBlind Pc) (hPc : ∀ U : State, U.heap = H → s.WarmedH U.vm → Pc As.toArray U)
    (hn : As.length = n) (hsize : ls.size = nL) (hW9 : 2 * (F0 m pc ls rest).monitorRoom + (rest.map fun v => v.category).sum ≤ 8) (hdg : decode cc pc = .ok (.invokestatic index, 3)) (hf : cells + rm.cells ≤ R.cells ∧ slots + rm.slots ≤ R.slots) :
    xh_Run p l e R s m args below meth c H locs cells slots (F0 m pc ls (As.reverse ++ rest)) rest rm Qc free := by
  intro T hT X
  obtain ⟨hfr, hlo, hws, hcw, hini, hy, hlen⟩ := cb
  obtain ⟨mk, methM, cM, hnamed, hmethM, -, -, -, -, -, -, hsigM⟩ := Cond.codeWith_spec (hcw args s (State.WarmedH.refl s))
  have hstatic : methM.isStatic = true := Cond.static_spec hnamed hmethM hstat
  obtain ⟨kP, hkP, -⟩ := className_of_methodNamed hnamed
  have hinitP : kP.init = .initialized := Cond.initialized_spec (findClass_of_methodNamed hnamed) hkP (hini args s (State.WarmedH.refl s))
  have hdg' : decode c.code pc = .ok (.invokestatic index, 3) := by rw [hb]; exact hdg
  obtain ⟨vm₁, X₁, hstep₁⟩ := X.invokestatic hx hown hlink hnamed hmethM hstatic hkP hinitP hy (g := F0 m pc ls (As.reverse ++ rest)) rfl (argsL := As) (rest := rest) (hn.trans (hlen _ hsigM)) rfl hdg'
  obtain ⟨o, t, V, L, XV, e1, e2, hL, hq, hst⟩ := xh_back hM X₁ (g := F0 m pc ls rest) (W9 := 8) (a := As.toArray) rfl (hsize.trans hml.symm) hdg' hW9 (X₁.named hnamed) (fun w hw => hws w hw _ _ X₁.warmed) (hcw _ _ X₁.warmed) (hini _ _ X₁.warmed) hfr hlo hf.1 hf.2
    (hbl _ _ _ _ (hPc (T.setVm vm₁) hT X₁.warmed))
  exact ⟨o, (T.setVm vm₁).calling (F0 m pc ls rest) mk As.toArray, t, V, L, hT, X₁.warmed, XV, e1, e2, hL, hq, hstep₁ _ fun acts => by rw [doInvoke_state]; exact hst⟩
/-- a static call of a nest mate's private method -/
theorem xh_runSN (hx : p.tables.exec = Jvm.exec) (hb : c.code = cc) (hml : c.maxLocals = nL) (hown : s.vm.findClass own = some m.cls) (hM : xh_Met l y ws rm Pc Qc free) (cb : xh_CB R s y bytes maxL ret hh ws rm n)
    (hlink : (Cond.methodLinkNest own index y host).before args s = true) (hstat : (Cond.static y).before args s = true) (hbl : FrameBlind Pc) (hPc : ∀ U : State, U.heap = H → s.WarmedH U.vm → Pc As.toArray U)
    (hn : As.length = n) (hsize : ls.size = nL) (hW9 : 2 * (F0 m pc ls rest).monitorRoom + (rest.map fun v => v.category).sum ≤ 8) (hdg : decode cc pc = .ok (.invokestatic index, 3)) (hf : cells + rm.cells ≤ R.cells ∧ slots + rm.slots ≤ R.slots) :
    xh_Run p l e R s m args below meth c H locs cells slots (F0 m pc ls (As.reverse ++ rest)) rest rm Qc free := by
  intro T hT X
  obtain ⟨hfr, hlo, hws, hcw, hini, hy, hlen⟩ := cb
  obtain ⟨mk, methM, cM, hnamed, hmethM, -, -, -, -, -, -, hsigM⟩ := Cond.codeWith_spec (hcw args s (State.WarmedH.refl s))
  have hstatic : methM.isStatic = true := Cond.static_spec hnamed hmethM hstat
  obtain ⟨kP, hkP, -⟩ := className_of_methodNamed hnamed
  have hinitP : kP.init = .initialized := Cond.initialized_spec (findClass_of_methodNamed hnamed) hkP (hini args s (State.WarmedH.refl s))
  have hdg' : decode c.code pc = .ok (.invokestatic index, 3) := by rw [hb]; exact hdg
  obtain ⟨vm₁, X₁, hstep₁⟩ := X.invokestaticNest hx hown hlink hnamed hmethM hstatic hkP hinitP hy (g := F0 m pc ls (As.reverse ++ rest)) rfl (argsL := As) (rest := rest) (hn.trans (hlen _ hsigM)) rfl hdg'
  obtain ⟨o, t, V, L, XV, e1, e2, hL, hq, hst⟩ := xh_back hM X₁ (g := F0 m pc ls rest) (W9 := 8) (a := As.toArray) rfl (hsize.trans hml.symm) hdg' hW9 (X₁.named hnamed) (fun w hw => hws w hw _ _ X₁.warmed) (hcw _ _ X₁.warmed) (hini _ _ X₁.warmed) hfr hlo hf.1 hf.2
    (hbl _ _ _ _ (hPc (T.setVm vm₁) hT X₁.warmed))
  exact ⟨o, (T.setVm vm₁).calling (F0 m pc ls rest) mk As.toArray, t, V, L, hT, X₁.warmed, XV, e1, e2, hL, hq, hstep₁ _ fun acts => by rw [doInvoke_state]; exact hst⟩
/-- a constructor -/
theorem xh_runI (hx : p.tables.exec = Jvm.exec) (hb : c.code = cc) (hml : c.maxLocals = nL) (hown : s.vm.findClass own = some m.cls) (hM : xh_Met l y ws rm Pc Qc free) (cb : xh_CB R s y bytes maxL none [] ws rm n) (hy1 : y.name = "<init>")
    (hlink : (Cond.methodLink own index y).before args s = true) (hinst : (Cond.instanceMethod y).before args s = true) (hcode : (Cond.code y bytes maxL none).before args s = true) (hbl : FrameBlind Pc) (hPc : ∀ U : State, U.heap = H → s.WarmedH U.vm → Pc (Value.ref b :: As).toArray U)
    (hn : As.length = n) (hsize : ls.size = nL) (hW9 : 2 * (F0 m pc ls rest).monitorRoom + (rest.map fun v => v.category).sum ≤ 8) (hdg : decode cc pc = .ok (.invokespecial index, 3)) (hf : cells + rm.cells ≤ R.cells ∧ slots + rm.slots ≤ R.slots) :
    xh_Run p l e R s m args below meth c H locs cells slots (F0 m pc ls (As.reverse ++ .ref b :: rest)) rest rm Qc free := by
  intro T hT X
  obtain ⟨hfr, hlo, hws, hcw, hini, hy, hlen⟩ := cb
  have hpl : e.platform.magicAccessors = ({} : Platform).magicAccessors := by rw [X.admits.platform]
  have hdg' : decode c.code pc = .ok (.invokespecial index, 3) := by rw [hb]; exact hdg
  obtain ⟨mk, methM, cM, kP, vm₁, hnamed, hmethM, hcodeM, -, hlocalsM, -, hkP, -, hW₁, hstep₁⟩ := Steps.initColdArgs (e := e) X.here hx X.warmed hpl hown hy1 hy hlink hinst hcode (f := F0 m pc ls (As.reverse ++ .ref b :: rest)) rfl (argsL := As) (rest := rest) (a := b) (fun sig h => hn.trans (hlen sig h)) rfl hdg'
  have X₁ := X.noted hW₁
  obtain ⟨o, t, V, L, XV, e1, e2, hL, hq, hst⟩ := xh_back hM X₁ (g := F0 m pc ls rest) (W9 := 8) (a := (Value.ref b :: As).toArray) rfl (hsize.trans hml.symm) hdg' hW9 (X₁.named hnamed) (fun w hw => hws w hw _ _ X₁.warmed) (hcw _ _ X₁.warmed) (hini _ _ X₁.warmed) hfr hlo hf.1 hf.2
    (hbl _ _ _ _ (hPc (T.setVm vm₁) hT X₁.warmed))
  exact ⟨o, (T.setVm vm₁).calling (F0 m pc ls rest) mk (Value.ref b :: As).toArray, t, V, L, hT, X₁.warmed, XV, e1, e2, hL, hq, hstep₁ _ fun acts => by rw [doInvoke_state]; exact hst⟩
/-- a nest mate's private constructor -/
theorem xh_runIN (hx : p.tables.exec = Jvm.exec) (hb : c.code = cc) (hml : c.maxLocals = nL) (hown : s.vm.findClass own = some m.cls) (hM : xh_Met l y ws rm Pc Qc free) (cb : xh_CB R s y bytes maxL none [] ws rm n) (hy1 : y.name = "<init>")
    (hlink : (Cond.methodLinkNest own index y host).before args s = true) (hinst : (Cond.instanceMethod y).before args s = true) (hcode : (Cond.code y bytes maxL none).before args s = true) (hbl : FrameBlind Pc) (hPc : ∀ U : State, U.heap = H → s.WarmedH U.vm → Pc (Value.ref b :: As).toArray U)
    (hn : As.length = n) (hsize : ls.size = nL) (hW9 : 2 * (F0 m pc ls rest).monitorRoom + (rest.map fun v => v.category).sum ≤ 8) (hdg : decode cc pc = .ok (.invokespecial index, 3)) (hf : cells + rm.cells ≤ R.cells ∧ slots + rm.slots ≤ R.slots) :
    xh_Run p l e R s m args below meth c H locs cells slots (F0 m pc ls (As.reverse ++ .ref b :: rest)) rest rm Qc free := by
  intro T hT X
  obtain ⟨hfr, hlo, hws, hcw, hini, hy, hlen⟩ := cb
  have hpl : e.platform.magicAccessors = ({} : Platform).magicAccessors := by rw [X.admits.platform]
  have hdg' : decode c.code pc = .ok (.invokespecial index, 3) := by rw [hb]; exact hdg
  obtain ⟨mk, methM, cM, kP, vm₁, hnamed, hmethM, hcodeM, -, hlocalsM, -, hkP, -, hW₁, hstep₁⟩ := Steps.initColdArgsNest (e := e) X.here hx X.warmed hpl hown hy1 hy hlink hinst hcode (f := F0 m pc ls (As.reverse ++ .ref b :: rest)) rfl (argsL := As) (rest := rest) (a := b) (fun sig h => hn.trans (hlen sig h)) rfl hdg'
  have X₁ := X.noted hW₁
  obtain ⟨o, t, V, L, XV, e1, e2, hL, hq, hst⟩ := xh_back hM X₁ (g := F0 m pc ls rest) (W9 := 8) (a := (Value.ref b :: As).toArray) rfl (hsize.trans hml.symm) hdg' hW9 (X₁.named hnamed) (fun w hw => hws w hw _ _ X₁.warmed) (hcw _ _ X₁.warmed) (hini _ _ X₁.warmed) hfr hlo hf.1 hf.2
    (hbl _ _ _ _ (hPc (T.setVm vm₁) hT X₁.warmed))
  exact ⟨o, (T.setVm vm₁).calling (F0 m pc ls rest) mk (Value.ref b :: As).toArray, t, V, L, hT, X₁.warmed, XV, e1, e2, hL, hq, hstep₁ _ fun acts => by rw [doInvoke_state]; exact hst⟩
end XHD
end
section
/-! ===== throw new E("text"), and a caller's handlers ===== -/
section XHE
variable {p : Program} {l : Launch} {e : Env} {R : Room} {s : State} {m : MethodId} {args : Array Value} {below : List Frame} {meth : Method} {c : Code} {H : Heap} {locs : List Loc} {cells slots : Nat} {Q : State → Prop}
/-- the frame as it stands, taken for one that has just been entered: nothing written, nothing made -/
theorem xh_anew {T : State} (X : Stand p l e R s m args below meth c T locs cells slots) {R' : Room} (hf : R'.frames ≤ R.frames) (hl : R'.locals ≤ R.locals) (hc : cells + R'.cells ≤ R.cells) (hs : slots + R'.slots ≤ R.slots) :
    Stand p l e R' ((T.setVm s.vm).setFrames (.invoking m args :: below)) m args below meth c T [] 0 0 := by
  obtain ⟨g₀, hfr⟩ := X.frames_eq
  have hcur : (T.setVm s.vm).cur < (T.setVm s.vm).threads.size := State.cur_lt_of_frames hfr
  have hF : ((T.setVm s.vm).setFrames (.invoking m args :: below)).frames = .invoking m args :: below := State.frames_setFrames _ hcur
  have hU : ((T.setVm s.vm).setFrames (.invoking m args :: below)).localsInUse = s.localsInUse := by
    rw [State.localsInUse_invoking hF (meth := meth) (c := c) X.method X.code, State.localsInUse_invoking X.frames X.method X.code]
  have hl9 : e.platform.stackLimits (T.setVm s.vm).me = e.platform.stackLimits s.me := X.limits
  have hb9 : (T.setVm s.vm).me.stackBytes = s.me.stackBytes := X.bytes
  have q1 := X.heapSize
  have q2 := X.used
  have hroom : ((T.setVm s.vm).setFrames (.invoking m args :: below)).hasRoom e.platform R' = true := by
    have h := X.room
    simp only [State.hasRoom, Bool.and_eq_true, decide_eq_true_eq] at h ⊢
    obtain ⟨⟨⟨⟨h1, h2, h3, h4, h5, h6⟩, h7⟩, h8⟩, h9⟩ := h
    rw [X.frames, List.length_cons] at h2 h3
    rw [hF, hU, List.length_cons, State.stackLimits_setFrames, State.stackBytes_setFrames, hl9, hb9]
    refine ⟨⟨⟨⟨by omega, by omega, by omega, by omega, by omega, h6⟩, ?_⟩, ?_⟩, X.book⟩
    · show T.heap.size + R'.cells ≤ _
      omega
    · show T.slotsUsed + R'.slots ≤ _
      omega
  obtain ⟨th, hth, -⟩ := State.frames_cons hfr
  have hdrop : T.heap.toList.drop T.heap.size = [] := List.drop_eq_nil_of_le (Nat.le_of_eq Array.length_toList)
  refine ⟨X.admits, X.cas, X.clock, hF, hroom, X.hears, X.method, X.code, X.here, X.tail, X.warmed, ?_, ?_, ?_⟩
  · rw [State.stackLimits_setFrames]; rfl
  · rw [State.stackBytes_setFrames]; rfl
  · refine ⟨?_, Nat.le_refl _, Nat.le_refl _, ?_, ?_, fun a c9 h9 => ⟨c9, h9, rfl, rfl, fun _ _ => rfl⟩⟩
    · show T.setVm s.vm = { ((T.setVm s.vm).setFrames (.invoking m args :: below)).setFrames (T.setVm s.vm).frames with heap := T.heap, slotsUsed := T.slotsUsed }
      rw [State.setFrames_setFrames, State.setFrames_self (s := T.setVm s.vm) hth]
      rfl
    · show T.slotsUsed = T.slotsUsed + ((T.heap.toList.drop T.heap.size).map (·.slots.size)).sum
      rw [hdrop]; rfl
    · show ((T.heap.toList.drop T.heap.size).map (·.slots.size)).sum ≤ 0
      rw [hdrop]; exact Nat.le_refl _
/-- what 'nothing written' says of a heap -/
theorem xh_same {t : State} {k n : Nat} (h : s.sameButNew ({ t with vm := s.vm } : State) [] k n) : s.heap.size ≤ t.heap.size ∧ ∀ q : Nat, q < s.heap.size → t.heap[q]? = s.heap[q]? := by
  obtain ⟨-, h2, -, -, -, h6⟩ := h
  refine ⟨h2, fun q hq => ?_⟩
  have h0 : s.heap[q]? = some s.heap[q] := Array.getElem?_eq_getElem hq
  obtain ⟨c9, e1, e2, -, e4⟩ := h6 q _ h0
  have hs : c9.slots = (s.heap[q]).slots := Array.ext_getElem? fun i => e4 i (by simp)
  have h9 : c9 = s.heap[q] := by rw [hs] at e2; exact e2
  have e5 : t.heap[q]? = some c9 := e1
  rw [e5, h9, h0]
variable {Qc : State → Outcome → State → Prop} {free : Addr → Prop} {mc ms : Nat} {cc : ByteArray} {pc : Nat} {ls : Array Slot} {rest : List Value}
set_option maxHeartbeats 1000000 in
/-- throw new E("text"): new, dup, ldc, invokespecial, athrow; nothing here catches it -/
theorem xh_throw (hx : p.tables.exec = Jvm.exec) (hb : c.code = cc) (hl : l.stackTraces = false) {own cls text : String} {names : List String} {ik is ic b0 : Nat}
    (hown : s.vm.findClass own = some m.cls) (hcls : Bundle.fit cls = true) (hnames : ∀ n ∈ names, Bundle.fit n = true)
    (hF : ∀ U : State, s.WarmedH U.vm → (∀ q : Nat, q < b0 → U.heap[q]? = s.heap[q]?) → (∀ (A : Array Value) (w : Cond), w ∈ Cond.classLink own ik cls :: Cond.initialized cls :: Bundle.ownAtoms own ic cls names → w.before A U = true) ∧ ∃ sa : Nat, vk_R own is text sa U)
    (hb0 : ∀ q : Nat, q < b0 → H[q]? = s.heap[q]?) (hsize : ls.size = c.maxLocals)
    (d0 : decode cc pc = .ok (.new ik, 3)) (d3 : decode cc (pc + 3) = .ok (.dup, 1)) (d4 : decode cc (pc + 4) = .ok (.ldc is, 2)) (d6 : decode cc (pc + 6) = .ok (.invokespecial ic, 3)) (d9 : decode cc (pc + 9) = .ok (.athrow, 1))
    (hout : c.exceptionTable.toList = []) (hRf : names.length + 3 < R.frames) (hRl : (rest.map fun v => v.category).sum + (13 * (names.length + 1) + 43) ≤ R.locals) (hlocks : meth.locks = false)
    (hq : ∀ (t : State) (q : Addr) (ce : Cell), s.WarmedH t.vm → H.size ≤ t.heap.size → (∀ z : Nat, z < H.size → t.heap[z]? = H[z]?) → H.size ≤ q → t.heap[q]? = some ce → ce.vm = .none → s.vm.findClass cls = some ce.cls → Qc s (.threw q) t)
    (hf : ∀ z ∈ locs, free z.base) (hc : cells + 1 ≤ mc) (hs : slots + 6 ≤ ms) (hmc : mc ≤ R.cells) (hms : ms ≤ R.slots) :
    W p l e R s m args below meth c H locs cells slots (xh_MQ below Qc s mc ms free) (F0 m pc ls rest) := by
  intro T hT X
  have htr : e.platform.stackTraces = false := (show e.platform.stackTraces = l.stackTraces by rw [X.admits.platform]).trans hl
  have Y := xh_anew X (R' := { frames := R.frames, locals := R.locals, cells := 1, slots := 6 }) (Nat.le_refl _) (Nat.le_refl _) (Nat.le_trans hc hmc) (Nat.le_trans hs hms)
  obtain ⟨s', hA⟩ : ∃ z, z = (T.setVm s.vm).setFrames (.invoking m args :: below) := ⟨_, rfl⟩
  rw [← hA] at Y
  have hvm : s'.vm = s.vm := by rw [hA]; rfl
  have hhp : s'.heap = H := by rw [hA]; exact hT
  have hW0 : s.WarmedH s'.vm := by rw [hvm]; exact State.WarmedH.refl s
  obtain ⟨hat, sa, hstr⟩ := hF s' hW0 (fun q h => by rw [hhp]; exact hb0 q h)
  have hown' : s'.vm.findClass own = some m.cls := by rw [hvm]; exact hown
  have h : ∀ w ∈ Bundle.ownAtoms own ic cls names, w.before args s' = true := fun w hw => hat args w (List.mem_cons_of_mem _ (List.mem_cons_of_mem _ hw))
  obtain ⟨vm₁, cX, kX, hfX, hkX, -, -, X₁, st1⟩ := Y.newCold hx (own := own) (C := cls) (index := ik) (n := 6) hown' (hat args _ List.mem_cons_self) (h _ (by simp [Bundle.ownAtoms])) (hat args _ (List.mem_cons_of_mem _ List.mem_cons_self))
    (g := F0 m pc ls rest) rfl (by rw [hb]; exact d0) (Nat.le_refl _) (Nat.le_refl _)
  generalize hT1 : (T.setVm vm₁).pushCell { cls := cX, slots := kX.instanceTypes.map defaultValue, vm := .none } = T1 at X₁ st1
  have hcellA : T1.heap[T.heap.size]? = some (freshCell cX kX) := by rw [← hT1]; exact State.heap_pushCell_size _ _
  have d3' : decode c.code (pc + 3) = .ok (.dup, 1) := by rw [hb]; exact d3
  have d4' : decode c.code (pc + 4) = .ok (.ldc is, 2) := by rw [hb]; exact d4
  have hcat : (Value.ref T.heap.size).category = 1 := rfl
  obtain ⟨U, hsteps, hrun, hend, hW, hsame, ce, hce, hO⟩ := X₁.ctorThrowS hx htr (own := own) (cls := cls) (names := names) (ic := ic) hown' hcls hnames h (fun x hx => nomatch hx) hfX hkX hcellA (by rw [hhp, hT]; exact Nat.le_refl _) (msg := .ref sa) rfl
    (g := { method := m, pc := pc + 6, locals := ls, stack := .ref sa :: .ref T.heap.size :: .ref T.heap.size :: rest, locked := none }) rfl hsize rfl rfl (rest := rest) rfl
    (by rw [hb]; exact d6) (by rw [hb]; exact d9) (by rw [hout]; intro x hx; cases hx) hRf (by simp only [List.map_cons, List.sum_cons, hcat]; omega) hlocks
  obtain ⟨f1, f2⟩ := xh_same hsame
  rw [hhp] at f1 f2
  have hWs : s.WarmedH U.vm := State.WarmedH.trans hW0 hW
  have hcl : s.vm.findClass cls = some ce.cls := by have h9 := hO.cls; rw [hvm] at h9; exact h9
  have hall : s.sameButNew ({ U with vm := s.vm } : State) locs mc ms := by
    subst hA
    obtain ⟨e1, e2⟩ := hsame
    rw [State.setFrames_setFrames] at e1
    have h2 : (T.setVm s.vm).sameButNew ({ U with vm := s.vm } : State) [] (0 + 1) (0 + 6) := ⟨e1, e2⟩
    have h3 := X.same.trans h2
    rw [List.append_nil] at h3
    exact h3.mono hc hs
  refine ⟨U, ?_, .threw T.heap.size, hrun, hend, hq U _ ce hWs f1 f2 (by rw [hT]; exact Nat.le_refl _) hce hO.vm hcl, locs, hWs, hall, hf⟩
  refine st1 _ ?_
  show Steps p.tables e below (T1.setTop { method := m, pc := pc + 3, locals := ls, stack := .ref T.heap.size :: rest, locked := none }) _
  jvm_step X₁.here [X₁.here.top, hx, d3', Value.category]
  exact X₁.ldcString hx (own := own) (text := text) (index := is) (a := sa) hown' hstr.1 hstr.2
    (g := { method := m, pc := pc + 4, locals := ls, stack := .ref T.heap.size :: .ref T.heap.size :: rest, locked := none }) rfl d4' _ hsteps
end XHE
section XHF
variable {Q : Handler → Pre} {E : CtlPost} {e : Env} {d : Bool} {acts : List Action} {s : State} {f : JFrame} {a : Addr}
/-- a row of a handlers' table whose class is looked up: it takes the object, or the search goes on -/
theorem xh_row {x : ExceptionTableEntry} {t : List ExceptionTableEntry} {k : ClassId} {cell : Cell} {b : Bool} (hx : covers x f.pc = true) (h0 : x.catchType ≠ 0) (hl : s.vm.ClassLinks e.platform f.method.cls x.catchType k) (hcell : s.heap[a]? = some cell) (hobj : ∀ z, cell.vm ≠ .statics z)
    (hk : ∃ z, s.vm.classes[cell.cls]? = some z) (hc : ∃ z, s.vm.classes[k]? = some z) (hb : s.vm.assignable cell.cls k = b) :
    wp (findHandler.go f a (x :: t)) Q E e d acts s ↔ (if b = true then Q (.found x.handlerPc) d acts (s.setVm (s.vm.noted f.method.cls x.catchType (.cls k))) else wp (findHandler.go f a t) Q E e d acts (s.setVm (s.vm.noted f.method.cls x.catchType (.cls k)))) := by
  simp only [covers] at hx
  obtain ⟨ha, ht⟩ := (resolveClass_links e.toSetting hl).op (op := VmOp.resolveClass f.method.cls x.catchType) rfl
  have hal : s.vm.Alike (s.vm.noted f.method.cls x.catchType (.cls k)) := (Vm.Alike.refl s.vm).noted _ _ _
  obtain ⟨k1, hk1⟩ := hk
  obtain ⟨k2, hk2⟩ := hc
  obtain ⟨k1', hk1', -⟩ := hal.2.2 _ _ hk1
  obtain ⟨k2', hk2', -⟩ := hal.2.2 _ _ hk2
  have hb' : (s.vm.noted f.method.cls x.catchType (.cls k)).assignable cell.cls k = b := by rw [hal.assignable]; exact hb
  cases b <;> simp [findHandler.go, hx, h0, ha, ht, hcell, hobj, hk1', hk2', hb', VmOp.dirties, VmOp.acts]
end XHF
/-- the rows ahead are passed, x takes it -/
theorem xh_find {e : Env} {s₀ : State} {f : JFrame} {a : Addr} {cell : Cell} (hobj : ∀ z, cell.vm ≠ .statics z) (hk0 : ∃ k, s₀.vm.classes[cell.cls]? = some k) {x : ExceptionTableEntry} {suf : List ExceptionTableEntry} {k : ClassId}
    (hx : covers x f.pc = true) (h0 : x.catchType ≠ 0) (hl : s₀.vm.ClassLinks e.platform f.method.cls x.catchType k) (hfit : s₀.vm.assignable cell.cls k = true) :
    ∀ (pre : List ExceptionTableEntry) (S : State), s₀.WarmedH S.vm → S.heap[a]? = some cell → (∀ y ∈ pre, covers y f.pc = true ∧ y.catchType ≠ 0 ∧ ∃ k' : ClassId, s₀.vm.ClassLinks e.platform f.method.cls y.catchType k' ∧ s₀.vm.assignable cell.cls k' = false) →
      ∃ vm', s₀.WarmedH vm' ∧ ∀ (Q : Handler → Pre) (E : CtlPost) (d : Bool) (acts : List Action), wp (findHandler.go f a (pre ++ x :: suf)) Q E e d acts S ↔ Q (.found x.handlerPc) d acts (S.setVm vm') := by
  obtain ⟨k0, hk0⟩ := hk0
  intro pre
  induction pre with
  | nil =>
    intro S hW hcell _
    obtain ⟨k0', hk0', -⟩ := hW.alike.2.2 _ _ hk0
    obtain ⟨dk, _, _, kt, hd, _, _, _, _, hkt, _, hopen⟩ := hl.here
    obtain ⟨kt', hkt', -⟩ := hW.alike.2.2 _ _ hkt
    refine ⟨_, hW.noted hd hopen (State.rightAt_cls hl), fun Q E d acts => ?_⟩
    rw [List.nil_append, xh_row (b := true) hx h0 (hW.classLinks hl) hcell hobj ⟨k0', hk0'⟩ ⟨kt', hkt'⟩ (by rw [hW.alike.assignable]; exact hfit), if_pos rfl]
  | cons y ys ih =>
    intro S hW hcell hpass
    obtain ⟨k0', hk0', -⟩ := hW.alike.2.2 _ _ hk0
    obtain ⟨hy, hy0, k', hl', hno⟩ := hpass y List.mem_cons_self
    obtain ⟨dk, _, _, kt, hd, _, _, _, _, hkt, _, hopen⟩ := hl'.here
    obtain ⟨kt', hkt', -⟩ := hW.alike.2.2 _ _ hkt
    obtain ⟨vm', hW', hq⟩ := ih (S.setVm (S.vm.noted f.method.cls y.catchType (.cls k'))) (hW.noted hd hopen (State.rightAt_cls hl')) hcell (fun z hz => hpass z (List.mem_cons_of_mem _ hz))
    refine ⟨vm', hW', fun Q E d acts => ?_⟩
    rw [List.cons_append, xh_row (b := false) hy hy0 (hW.classLinks hl') hcell hobj ⟨k0', hk0'⟩ ⟨kt', hkt'⟩ (by rw [hW.alike.assignable]; exact hno), if_neg (by decide)]
    exact hq Q E d acts
/-- one step: the note gone, the frame at its handler, the tables warmer -/
theorem xh_step {e : Env} {s : State} {a : Addr} {f : JFrame} {r : List Frame} {pc : Nat} {vm' : Vm} (hfind : ∀ (Q : Handler → Pre) (E : CtlPost) (d : Bool) (acts : List Action), wp (findHandler f a) Q E e d acts s ↔ Q (.found pc) d acts (s.setVm vm')) :
    (stepThrowing e s a (.java f :: r)).Is ((s.setVm vm').setFrames (.java { f with pc := pc, stack := [.ref a] } :: r)) [] := by
  simp only [stepThrowing, searchFrame, vmDo]
  generalize hr : Sem.go _ e false [] s = res
  obtain ⟨as, rfl, ha⟩ := Sem.eq_ok_of hr (a := Handler.found pc) (s' := s.setVm vm') (acts' := []) (by simp [hfind _ _ _ _])
  exact ⟨rfl, ha⟩
theorem xh_into {tb : Tables} {e : Env} {s target : State} {g : JFrame} {c : Code} {below : List Frame} {a : Addr} (h : At s g.method c below) {pc : Nat} {vm' : Vm}
    (hfind : ∀ (Q : Handler → Pre) (E : CtlPost) (d : Bool) (acts : List Action), wp (findHandler g a) Q E e d acts ((s.setTop g).pushFrame (.throwing a)) ↔ Q (.found pc) d acts (((s.setTop g).pushFrame (.throwing a)).setVm vm'))
    (hrest : Steps tb e below ((s.setVm vm').setTop { g with pc := pc, stack := [.ref a] }) target) : Steps tb e below ((s.setTop g).pushFrame (.throwing a)) target := by
  obtain ⟨hgo, hw⟩ := h.throwing a
  refine Steps.head hgo hw ?_
  rw [stepThread_throwing (frames_entered h.top _), (xh_step (s := (s.setTop g).pushFrame (.throwing a)) hfind).1]
  obtain ⟨g₀, hg⟩ := Option.isSome_iff_exists.mp h.top
  obtain ⟨r, hr⟩ := State.topJava?_eq_some.mp hg
  have hr' : (s.setVm vm').frames = .java g₀ :: r := hr
  rw [State.setTop_of_frames _ hr'] at hrest
  rw [State.pushFrame, State.setTop_of_frames _ hr, State.setFrames_setFrames, hr]
  show Steps tb e below (((s.setVm vm').setFrames _).setFrames _) target
  rw [State.setFrames_setFrames]
  exact hrest
/-- the table out of its rows' numbers -/
theorem xh_tab : ∀ {L : List ExceptionTableEntry} {hh : List (Nat × Nat × Nat × Nat)}, L.map (fun h => (h.startPc, h.endPc, h.handlerPc, h.catchType)) = hh → L = hh.map (fun q => ⟨q.1, q.2.1, q.2.2.1, q.2.2.2⟩)
  | [], hh, h => by subst h; rfl
  | x :: L, hh, h => by
    subst h
    have := xh_tab (L := L) rfl
    simp only [List.map_cons]
    rw [← this]
section XHG
variable {p : Program} {l : Launch} {e : Env} {R : Room} {s : State} {m : MethodId} {args : Array Value} {below : List Frame} {meth : Method} {c : Code} {H : Heap} {locs : List Loc} {cells slots : Nat} {Q : State → Prop} {pc : Nat} {ls : Array Slot} {rest : List Value}
/-- caught: by the row x, the rows ahead of it being of other classes -/
theorem xh_catch {own name E : String} {ce : Cell} {q : Addr} (hown : s.vm.findClass own = some m.cls) (pre : List ExceptionTableEntry) (x : ExceptionTableEntry) (suf : List ExceptionTableEntry) (hsplit : c.exceptionTable.toList = pre ++ x :: suf)
    (hpass : ∀ z ∈ pre, covers z pc = true ∧ z.catchType ≠ 0 ∧ ∃ nm : String, (Cond.classLink own z.catchType nm).before args s = true ∧ va_Nc E nm s) (hx : covers x pc = true) (h0 : x.catchType ≠ 0)
    (hlink : (Cond.classLink own x.catchType name).before args s = true) (hcast : (Cond.castable E name).before args s = true) (hcell : H[q]? = some ce) (hv : ce.vm = .none) (hcl : s.vm.findClass E = some ce.cls)
    (kk : W p l e R s m args below meth c H locs cells slots Q (F0 m x.handlerPc ls [.ref q])) : xh_W p l e R s m args below meth c H locs cells slots Q (F0 m pc ls rest) q := by
  intro T hT X
  have hpl : e.platform.magicAccessors = ({} : Platform).magicAccessors := by rw [X.admits.platform]
  obtain ⟨c3, c4, hc3, hc4, hasg⟩ := Cond.castable_spec hcast
  cases Option.some.inj (hc3.symm.trans hcl)
  obtain ⟨c5, hc5, hcl5⟩ := Cond.classLink_spec hown hlink e.platform hpl
  cases Option.some.inj (hc4.symm.trans hc5)
  have hT' : T.heap[q]? = some ce := by rw [hT]; exact hcell
  obtain ⟨vm', hW', hq⟩ := xh_find (e := e) (s₀ := s) (f := F0 m pc ls rest) (a := q) (cell := ce) (fun z h => by rw [hv] at h; cases h) (by obtain ⟨k9, h9, -⟩ := Vm.findClass_spec hcl; exact ⟨k9, h9⟩) (x := x) (suf := suf) hx h0 hcl5 hasg pre ((T.setTop (F0 m pc ls rest)).pushFrame (.throwing q)) X.warmed hT'
    (fun z hz => by
      obtain ⟨z1, z2, nm, z3, a8, b8, y1, y2, y3⟩ := hpass z hz
      obtain ⟨c6, hc6, hcl6⟩ := Cond.classLink_spec hown z3 e.platform hpl
      cases Option.some.inj (y1.symm.trans hcl)
      cases Option.some.inj (y2.symm.trans hc6)
      exact ⟨z1, z2, _, hcl6, y3⟩)
  obtain ⟨t, a1, b1⟩ := kk (T.setVm vm') hT (X.noted hW')
  refine ⟨t, ?_, b1⟩
  refine xh_into (g := F0 m pc ls rest) (pc := x.handlerPc) (vm' := vm') X.here (fun Q E d acts => ?_) a1
  rw [W.findHandler_eq (meth := meth) (code := c) X.method' X.code, hsplit]
  exact hq Q E d acts
end XHG
end
section
/-! ===== pictures: which cell lies at which address; a row an instruction ===== -/
abbrev hv_M : Type := Nat → Option va_E
def hv_up (f : hv_M) (a : Nat) (x : va_E) : hv_M := fun q => if q = a then some x else f q
theorem hv_up_self (f : hv_M) (a : Nat) (x : va_E) : hv_up f a x a = some x := by simp [hv_up]
theorem hv_up_ne (f : hv_M) {a q : Nat} (x : va_E) (h : q ≠ a) : hv_up f a x q = f q := by simp [hv_up, h]
/-- the walk's heap H, begun at H0: the picture f lies in it, at b0 and above; below b0 nothing has changed -/
def hv_I (D : va_G) (cl : List vw_C) (b0 : Nat) (f : hv_M) (H0 H : Heap) (locs : List Loc) : Prop :=
  (∀ (a : Nat) (x : va_E), f a = some x → va_at D cl (a, x) H) ∧ (∀ (a : Nat) (x : va_E), f a = some x → b0 ≤ a) ∧ b0 ≤ H0.size ∧ va_S (fun q => b0 ≤ q) H0 H locs
theorem hv_I.one {D : va_G} {cl : List vw_C} {b0 : Nat} {f : hv_M} {H0 H : Heap} {locs : List Loc} (h : hv_I D cl b0 f H0 H locs) {a : Nat} {x : va_E} (ha : f a = some x) : va_P D cl [(a, x)] H := by
  intro k q hk
  match k, hk with
  | 0, hk => cases hk; exact h.1 a x ha
  | k + 1, hk => simp at hk
theorem hv_I.set {D : va_G} {cl : List vw_C} {b0 : Nat} {f : hv_M} {H0 H H1 : Heap} {locs : List Loc} {a k : Nat} {x0 x : va_E} (h : hv_I D cl b0 f H0 H locs) (ha : f a = some x0) (hx : va_at D cl (a, x) H1) (z : H1.size = H.size) (oq : ∀ q : Nat, q ≠ a → H1[q]? = H[q]?) :
    hv_I D cl b0 (hv_up f a x) H0 H1 (locs ++ [⟨a, k⟩]) := by
  obtain ⟨h1, h2, h3, h4⟩ := h
  refine ⟨fun q y hq => ?_, fun q y hq => ?_, h3, h4.put z oq (h2 a x0 ha)⟩
  · by_cases hqa : q = a
    · subst hqa
      rw [hv_up_self] at hq
      cases hq
      exact hx
    · rw [hv_up_ne _ _ hqa] at hq
      exact (h1 q y hq).kept (oq q hqa)
  · by_cases hqa : q = a
    · subst hqa
      exact h2 _ x0 ha
    · rw [hv_up_ne _ _ hqa] at hq
      exact h2 q y hq
theorem hv_I.push {D : va_G} {cl : List vw_C} {b0 : Nat} {f : hv_M} {H0 H H1 : Heap} {locs : List Loc} {x : va_E} (h : hv_I D cl b0 f H0 H locs) (hx : va_at D cl (H.size, x) H1) (z : H1.size = H.size + 1) (oq : ∀ q : Nat, q < H.size → H1[q]? = H[q]?) :
    hv_I D cl b0 (hv_up f H.size x) H0 H1 locs ∧ f H.size = none := by
  obtain ⟨h1, h2, h3, h4, h5, h6⟩ := h
  have hlt : ∀ (q : Nat) (y : va_E), f q = some y → q < H.size := fun q y hq => (h1 q y hq).lt
  refine ⟨⟨fun q y hq => ?_, fun q y hq => ?_, h3, Nat.le_trans h4 (by omega), fun q hq hn => (oq q (Nat.lt_of_lt_of_le hq h4)).trans (h5 q hq hn), h6⟩, ?_⟩
  · by_cases hqa : q = H.size
    · subst hqa
      rw [hv_up_self] at hq
      cases hq
      exact hx
    · rw [hv_up_ne _ _ hqa] at hq
      exact (h1 q y hq).kept (oq q (hlt q y hq))
  · by_cases hqa : q = H.size
    · subst hqa
      exact Nat.le_trans h3 h4
    · rw [hv_up_ne _ _ hqa] at hq
      exact h2 q y hq
  · cases hf : f H.size with
    | none => rfl
    | some y => exact absurd (hlt _ y hf) (Nat.lt_irrefl _)
/-- what a class's rows need, once for each class -/
def hv_Cl (cl : List vw_C) (Ts : List Cond) (ci : Nat) (C : String) (T : u_T) (N : Nat) (ty : Nat → FieldType) : Prop :=
  cl[ci]? = some (C, T, N) ∧ (∀ w ∈ u_ws C T N, w ∈ Ts) ∧ (∀ k, k < N → parseFieldDescriptor (T k).2.2.1 = some (ty k)) ∧ (∀ a, a < N → ∀ b, b < N → a ≠ b → (T a).2.1 ≠ (T b).2.1)
/-- where a walk goes: the machine, the code, whose it is, the words, the classes -/
def hv_E (p : Program) (c : Code) (cc : ByteArray) (s : State) (m : MethodId) (args : Array Value) (own : String) (Ts : List Cond) (D : va_G) (cl : List vw_C) (tys : List (ClassId × FieldType)) : Prop :=
  p.tables.exec = Jvm.exec ∧ c.code = cc ∧ s.vm.findClass own = some m.cls ∧ (∀ w ∈ Ts, w.before args s = true) ∧ va_K D cl tys s
section HVA
variable {p : Program} {l : Launch} {e : Env} {R : Room} {s : State} {m : MethodId} {args : Array Value} {below : List Frame} {meth : Method} {c : Code} {H : Heap} {locs : List Loc} {cells slots : Nat} {Q : State → Prop}
variable {cc : ByteArray} {pc : Nat} {ls : Array Slot} {rest : List Value} {D : va_G} {cl : List vw_C} {tys : List (ClassId × FieldType)} {Ts : List Cond} {b0 a ci N index : Nat} {f : hv_M} {H0 : Heap} {own host C : String} {T : u_T} {ty : Nat → FieldType} {fs : List Value} {v : Value}
theorem hv_get (hE : hv_E p c cc s m args own Ts D cl tys) (K : hv_Cl cl Ts ci C T N ty) (hI : hv_I D cl b0 f H0 H locs) (k : Nat) (hk : k < N) (hl : Cond.fieldLink own index (T k).1 (T k).2.1 (T k).2.2.1 ∈ Ts) (he : f a = some (.inr (ci, fs))) (hv : fs[k]? = some v) (hd : decode cc pc = .ok (.getfield index, 3))
    (kk : W p l e R s m args below meth c H locs cells slots Q (F0 m (pc + 3) ls (v :: rest))) : W p l e R s m args below meth c H locs cells slots Q (F0 m pc ls (.ref a :: rest)) :=
  va_get (D := D) (v := v) hE.1 hE.2.1 hE.2.2.2.1 K.2.1 hE.2.2.1 hE.2.2.2.2 (hI.one he) 0 rfl K.1 k hk (hE.2.2.2.1 _ hl) (fun _ h9 => h9) hv hd kk
theorem hv_getN (hE : hv_E p c cc s m args own Ts D cl tys) (K : hv_Cl cl Ts ci C T N ty) (hI : hv_I D cl b0 f H0 H locs) (k : Nat) (hk : k < N) (hl : Cond.fieldLinkNest own index (T k).1 (T k).2.1 (T k).2.2.1 host ∈ Ts) (he : f a = some (.inr (ci, fs))) (hv : fs[k]? = some v) (hd : decode cc pc = .ok (.getfield index, 3))
    (kk : W p l e R s m args below meth c H locs cells slots Q (F0 m (pc + 3) ls (v :: rest))) : W p l e R s m args below meth c H locs cells slots Q (F0 m pc ls (.ref a :: rest)) :=
  va_getN (D := D) (v := v) hE.1 hE.2.1 hE.2.2.2.1 K.2.1 hE.2.2.1 hE.2.2.2.2 (hI.one he) 0 rfl K.1 k hk (hE.2.2.2.1 _ hl) (fun _ h9 => h9) hv hd kk
theorem hv_put (hE : hv_E p c cc s m args own Ts D cl tys) (K : hv_Cl cl Ts ci C T N ty) (hI : hv_I D cl b0 f H0 H locs) (k : Nat) (hk : k < N) (hl : Cond.fieldLink own index (T k).1 (T k).2.1 (T k).2.2.1 ∈ Ts) (he : f a = some (.inr (ci, fs))) (hfin : (T k).2.2.2 = false) (hn : narrow (ty k) v = v) (hfit : fits (ty k) v = true) (hlen : k < fs.length) (hd : decode cc pc = .ok (.putfield index, 3))
    (kk : ∀ (H1 : Heap) (locs1 : List Loc), hv_I D cl b0 (hv_up f a (.inr (ci, fs.set k v))) H0 H1 locs1 → W p l e R s m args below meth c H1 locs1 cells slots Q (F0 m (pc + 3) ls rest)) : W p l e R s m args below meth c H locs cells slots Q (F0 m pc ls (v :: .ref a :: rest)) := by
  obtain ⟨hx, hb, hown, hts, hK⟩ := hE
  obtain ⟨hc, hin, hty, hnm⟩ := K
  have hap := va_apart (own := own) hts hin ty hty hnm hK hc
  obtain ⟨r, h1, cell, q1, q2, q3, q4⟩ := hI.1 a _ he
  have hr : r = (C, T, N) := Option.some.inj (h1.symm.trans hc)
  subst hr
  obtain ⟨hS, hfc, kC, hkC, hkind⟩ := hK.1 ci _ hc
  obtain ⟨cf, kf, fi, fd, hi, hsl⟩ := hS k hk
  have hlay := hts _ (hin _ (u_in_lay hk))
  unfold u_lay at hlay
  rw [if_neg (by rw [hfin]; decide)] at hlay
  refine W.putK hx hb (f := fd) ⟨hown, hts _ hl, ⟨_, _, _, hi⟩, (u_facts hfc hkC (u_lays hts hin hk) hi).1⟩ (by rw [q2]; exact u_store hfc hkC hkind hlay hi (hty k hk) hn hfit) q1 q3 (by rw [hsl]; exact k2_hasslot (q4 k hk)) rfl rfl hd fun H1 e1 e2 e3 => ?_
  rw [hsl] at e1 ⊢
  exact kk H1 _ (hI.set he ⟨_, hc, t_OB.to (V := updV (vp_V fs) k v) ⟨_, e1, q2, q3, t_set q4 hap hk v⟩ (fun j _ => vp_updV_set hlen v j)⟩ e2 e3)
theorem hv_putF (hE : hv_E p c cc s m args own Ts D cl tys) (K : hv_Cl cl Ts ci C T N ty) (hI : hv_I D cl b0 f H0 H locs) (hin2 : meth.name = "<init>") (k : Nat) (hk : k < N) (hl : Cond.fieldLink own index (T k).1 (T k).2.1 (T k).2.2.1 ∈ Ts) (he : f a = some (.inr (ci, fs))) (hfin : (T k).2.2.2 = true) (hdecl : (T k).1 = own) (hn : narrow (ty k) v = v) (hfit : fits (ty k) v = true) (hlen : k < fs.length) (hd : decode cc pc = .ok (.putfield index, 3))
    (kk : ∀ (H1 : Heap) (locs1 : List Loc), hv_I D cl b0 (hv_up f a (.inr (ci, fs.set k v))) H0 H1 locs1 → W p l e R s m args below meth c H1 locs1 cells slots Q (F0 m (pc + 3) ls rest)) : W p l e R s m args below meth c H locs cells slots Q (F0 m pc ls (v :: .ref a :: rest)) := by
  obtain ⟨hx, hb, hown, hts, hK⟩ := hE
  obtain ⟨hc, hin, hty, hnm⟩ := K
  have hap := va_apart (own := own) hts hin ty hty hnm hK hc
  obtain ⟨r, h1, cell, q1, q2, q3, q4⟩ := hI.1 a _ he
  have hr : r = (C, T, N) := Option.some.inj (h1.symm.trans hc)
  subst hr
  obtain ⟨hS, hfc, kC, hkC, hkind⟩ := hK.1 ci _ hc
  obtain ⟨cf, kf, fi, fd, hi, hsl⟩ := hS k hk
  have hlay := hts _ (hin _ (u_in_lay hk))
  unfold u_lay at hlay
  rw [if_pos hfin] at hlay
  have hcf : m.cls = cf := by
    obtain ⟨_, _, c', _, _, _, -, -, hf', -, -, -, hown2, -⟩ := Cond.laysFinal_spec hlay
    have e1 : c' = cf := by have := hi.symm.trans hf'; simp at this; exact this.1.symm
    rw [hdecl] at hown2
    rw [← e1]; exact Option.some.inj (hown.symm.trans hown2)
  refine W.putFinK hx hb hown (hts _ hl) hi (u_facts hfc hkC (u_lays hts hin hk) hi).1 hcf hin2 (by rw [q2]; exact u_fits hfc hkC hkind (Or.inr hlay) hi (hty k hk) hn hfit) q1 q3 (by rw [hsl]; exact k2_hasslot (q4 k hk)) rfl rfl hd fun H1 e1 e2 e3 => ?_
  rw [hsl] at e1 ⊢
  exact kk H1 _ (hI.set he ⟨_, hc, t_OB.to (V := updV (vp_V fs) k v) ⟨_, e1, q2, q3, t_set q4 hap hk v⟩ (fun j _ => vp_updV_set hlen v j)⟩ e2 e3)
theorem hv_new (hE : hv_E p c cc s m args own Ts D cl tys) (K : hv_Cl cl Ts ci C T N ty) (hI : hv_I D cl b0 f H0 H locs) (hl : Cond.classLink own index C ∈ Ts) (hi : Cond.instantiable C N ∈ Ts) (hini : Cond.initialized C ∈ Ts) (hfs : ∀ j, j < N → defaultValue (ty j) = vp_V fs j) (hcells : cells + 1 ≤ R.cells) (hslots : slots + N ≤ R.slots) (hd : decode cc pc = .ok (.new index, 3))
    (kk : ∀ (q : Nat) (H1 : Heap), f q = none → hv_I D cl b0 (hv_up f q (.inr (ci, fs))) H0 H1 locs → W p l e R s m args below meth c H1 locs (cells + 1) (slots + N) Q (F0 m (pc + 3) ls (.ref q :: rest))) : W p l e R s m args below meth c H locs cells slots Q (F0 m pc ls rest) := by
  obtain ⟨hx, hb, hown, hts, hK⟩ := hE
  obtain ⟨hc, hin, hty, hnm⟩ := K
  have hKn := hK.1 ci _ hc
  refine W.newcK hx hb hown (hts _ hl) (hts _ hi) (hts _ hini) rfl hd hcells hslots hKn.2.1 rfl fun H1 kC hkC e1 z1 o1 => ?_
  obtain ⟨hI1, hn⟩ := hI.push (x := .inr (ci, fs)) ⟨_, hc, (u_born ty hts hin hKn hkC e1 hty).to hfs⟩ z1 o1
  exact kk _ H1 hn hI1
variable {n t0 : Nat} {cA : ClassId} {i : Int32}
theorem hv_alen (hE : hv_E p c cc s m args own Ts D cl tys) (hI : hv_I D cl b0 f H0 H locs) (t0 : Nat) {x : vp_A} (he : f a = some (.inl (cA, x))) {t : FieldType} (ht : tys[t0]? = some (cA, t)) {z : Int32} (hz : Int32.ofNat x.1 = z) (hd : decode cc pc = .ok (.arraylength, 1))
    (kk : W p l e R s m args below meth c H locs cells slots Q (F0 m (pc + 1) ls (.int z :: rest))) : W p l e R s m args below meth c H locs cells slots Q (F0 m pc ls (.ref a :: rest)) :=
  va_alen (D := D) hE.1 hE.2.1 hE.2.2.2.2 (hI.one he) 0 t0 rfl ht hz hd kk
theorem hv_iald (hE : hv_E p c cc s m args own Ts D cl tys) (hI : hv_I D cl b0 f H0 H locs) (t0 : Nat) {g : Nat → Int32} (he : f a = some (.inl (cA, n, .inl g))) (ht : tys[t0]? = some (cA, .int)) (hin : vp_in i n) (hd : decode cc pc = .ok (.iaload, 1))
    (kk : W p l e R s m args below meth c H locs cells slots Q (F0 m (pc + 1) ls (.int (g i.toNatClampNeg) :: rest))) : W p l e R s m args below meth c H locs cells slots Q (F0 m pc ls (.int i :: .ref a :: rest)) :=
  va_iald (D := D) hE.1 hE.2.1 hE.2.2.2.2 (hI.one he) 0 t0 rfl ht hin hd kk
theorem hv_lald (hE : hv_E p c cc s m args own Ts D cl tys) (hI : hv_I D cl b0 f H0 H locs) (t0 : Nat) {g : Nat → Int64} (he : f a = some (.inl (cA, n, .inr (.inl g)))) (ht : tys[t0]? = some (cA, .long)) (hin : vp_in i n) (hd : decode cc pc = .ok (.laload, 1))
    (kk : W p l e R s m args below meth c H locs cells slots Q (F0 m (pc + 1) ls (.long (g i.toNatClampNeg) :: rest))) : W p l e R s m args below meth c H locs cells slots Q (F0 m pc ls (.int i :: .ref a :: rest)) :=
  va_lald (D := D) hE.1 hE.2.1 hE.2.2.2.2 (hI.one he) 0 t0 rfl ht hin hd kk
theorem hv_aald (hE : hv_E p c cc s m args own Ts D cl tys) (hI : hv_I D cl b0 f H0 H locs) (t0 : Nat) {B : String} {g : Nat → Option Nat} (he : f a = some (.inl (cA, n, .inr (.inr (.inr (.inr g)))))) (ht : tys[t0]? = some (cA, .object B)) (hin : vp_in i n) (hd : decode cc pc = .ok (.aaload, 1))
    (kk : W p l e R s m args below meth c H locs cells slots Q (F0 m (pc + 1) ls (va_rf (g i.toNatClampNeg) :: rest))) : W p l e R s m args below meth c H locs cells slots Q (F0 m pc ls (.int i :: .ref a :: rest)) :=
  va_aldq (D := D) hE.1 hE.2.1 hE.2.2.2.2 (hI.one he) 0 t0 rfl ht hin hd kk
theorem hv_iast (hE : hv_E p c cc s m args own Ts D cl tys) (hI : hv_I D cl b0 f H0 H locs) (t0 : Nat) {g : Nat → Int32} {x : Int32} (he : f a = some (.inl (cA, n, .inl g))) (ht : tys[t0]? = some (cA, .int)) (hin : vp_in i n) (hd : decode cc pc = .ok (.iastore, 1))
    (kk : ∀ (H1 : Heap) (locs1 : List Loc), hv_I D cl b0 (hv_up f a (.inl (cA, n, .inl (upd g i.toNatClampNeg x)))) H0 H1 locs1 → W p l e R s m args below meth c H1 locs1 cells slots Q (F0 m (pc + 1) ls rest)) : W p l e R s m args below meth c H locs cells slots Q (F0 m pc ls (.int x :: .int i :: .ref a :: rest)) := by
  obtain ⟨hx, hb, hown, hts, hK⟩ := hE
  refine W.iast hx hb (hI.1 a _ he) ((hK.2 t0 _ ht).1 n (fun j => .int (g j))) (fun q => by cases q) (by show ¬ (i < 0 ∨ (arrV _ _ _).slots.size ≤ _); rw [arrV_size]; exact hin) rfl rfl hd fun H1 e1 z oq => ?_
  refine kk H1 _ (hI.set he ?_ z oq)
  show H1[a]? = some (vp_cell _ _)
  rw [e1, vp_cell_i, vp_cell_i, arrV_store]
  congr 2
  funext q
  by_cases hq : q = i.toNatClampNeg
  · subst hq
    simp [updV, upd]
  · simp [updV, upd, hq]
theorem hv_last (hE : hv_E p c cc s m args own Ts D cl tys) (hI : hv_I D cl b0 f H0 H locs) (t0 : Nat) {g : Nat → Int64} {x : Int64} (he : f a = some (.inl (cA, n, .inr (.inl g)))) (ht : tys[t0]? = some (cA, .long)) (hin : vp_in i n) (hd : decode cc pc = .ok (.lastore, 1))
    (kk : ∀ (H1 : Heap) (locs1 : List Loc), hv_I D cl b0 (hv_up f a (.inl (cA, n, .inr (.inl (vp_updL g i.toNatClampNeg x))))) H0 H1 locs1 → W p l e R s m args below meth c H1 locs1 cells slots Q (F0 m (pc + 1) ls rest)) : W p l e R s m args below meth c H locs cells slots Q (F0 m pc ls (.long x :: .int i :: .ref a :: rest)) := by
  obtain ⟨hx, hb, hown, hts, hK⟩ := hE
  refine W.last hx hb (hI.1 a _ he) ((hK.2 t0 _ ht).1 n (fun j => .long (g j))) (fun q => by cases q) (by show ¬ (i < 0 ∨ (arrV _ _ _).slots.size ≤ _); rw [arrV_size]; exact hin) rfl rfl hd fun H1 e1 z oq => ?_
  refine kk H1 _ (hI.set he ?_ z oq)
  show H1[a]? = some (vp_cell _ _)
  rw [e1, vp_cell_l, vp_cell_l, arrV_store]
  congr 2
  funext q
  by_cases hq : q = i.toNatClampNeg
  · subst hq
    simp [updV, vp_updL]
  · simp [updV, vp_updL, hq]
/-- a reference into an array of B's: the object's class C can be taken for a B -/
theorem hv_aast (hE : hv_E p c cc s m args own Ts D cl tys) (hI : hv_I D cl b0 f H0 H locs) (t0 : Nat) {B : String} {g : Nat → Option Nat} {v0 : Nat} {vs : List Value} {r : vw_C} (he : f a = some (.inl (cA, n, .inr (.inr (.inr (.inr g)))))) (ht : tys[t0]? = some (cA, .object B)) (hv : f v0 = some (.inr (ci, vs))) (hc : cl[ci]? = some r) (hca : Cond.castable r.1 B ∈ Ts) (hin : vp_in i n) (hd : decode cc pc = .ok (.aastore, 1))
    (kk : ∀ (H1 : Heap) (locs1 : List Loc), hv_I D cl b0 (hv_up f a (.inl (cA, n, .inr (.inr (.inr (.inr (va_up g i.toNatClampNeg (some v0)))))))) H0 H1 locs1 → W p l e R s m args below meth c H1 locs1 cells slots Q (F0 m (pc + 1) ls rest)) : W p l e R s m args below meth c H locs cells slots Q (F0 m pc ls (.ref v0 :: .int i :: .ref a :: rest)) := by
  obtain ⟨hx, hb, hown, hts, hK⟩ := hE
  have hlt : i.toNatClampNeg < n := Nat.not_le.mp fun q => hin (Or.inr q)
  have h0 : ¬ i < 0 := fun q => hin (Or.inl q)
  obtain ⟨r', hr', cellV, g1, g2, g3, -⟩ := hI.1 v0 _ hv
  cases hc.symm.trans hr'
  have hcls := (hK.1 ci r hc).2.1
  obtain ⟨kA, comp, k1, k2, k3, -⟩ := (hK.2 t0 _ ht).2
  obtain ⟨kE, hkE, -⟩ := Vm.findClass_spec k3
  obtain ⟨kC, hkC, -⟩ := Vm.findClass_spec hcls
  obtain ⟨x1, x2, f1, f2, f3⟩ := Cond.castable_spec (hts _ hca)
  cases hcls.symm.trans f1
  cases k3.symm.trans f2
  refine W.aast hx hb (hI.1 a _ he) (fun q h => by cases h) (fun h => by cases h) k1 k2 rfl hkE ⟨h0, by show _ < (arrV _ _ _).slots.size; rw [arrV_size]; exact hlt⟩ g1 (fun q h => by rw [g3] at h; cases h) (by rw [g2]; exact hkC) (by rw [g2]; exact f3) rfl rfl hd fun H1 e1 z oq => ?_
  refine kk H1 _ (hI.set he ?_ z oq)
  show H1[a]? = some (vp_cell _ _)
  rw [e1, vp_cell_q, vp_cell_q, arrV_store]
  congr 2
  funext q
  by_cases hq : q = i.toNatClampNeg
  · subst hq
    simp [updV, va_up, va_rf]
  · simp [updV, va_up, hq]
theorem hv_newI (hE : hv_E p c cc s m args own Ts D cl tys) (hI : hv_I D cl b0 f H0 H locs) (t0 : Nat) (ht : tys[t0]? = some (cA, .int)) (hw : Cond.arrayClass .int ∈ Ts) {z : Int32} (hn : ¬ z < 0) (hz : z.toNatClampNeg = n) (hbytes : n * 4 ≤ 536870912) (hcells : cells + 1 ≤ R.cells) (hslots : slots + n ≤ R.slots) (hd : decode cc pc = .ok (.newarray .int, 2))
    (kk : ∀ (q : Nat) (H1 : Heap), f q = none → hv_I D cl b0 (hv_up f q (.inl (cA, n, .inl (fun _ => 0)))) H0 H1 locs → W p l e R s m args below meth c H1 locs (cells + 1) (slots + n) Q (F0 m (pc + 2) ls (.ref q :: rest))) : W p l e R s m args below meth c H locs cells slots Q (F0 m pc ls (.int z :: rest)) := by
  obtain ⟨hx, hb, hown, hts, hK⟩ := hE
  refine va_newaK (atype := .int) hx hb (hts _ hw) rfl hd rfl hn hz hbytes hcells hslots rfl fun H1 cB e1 z1 o1 hAr hNm => ?_
  have hcB : cB = cA := Option.some.inj (hNm.symm.trans (hK.2 t0 _ ht).2)
  subst hcB
  obtain ⟨hI1, hn1⟩ := hI.push (x := .inl (cB, n, .inl (fun _ => 0))) (by show H1[H.size]? = some (vp_cell _ _); rw [e1]; rfl) z1 o1
  exact kk _ H1 hn1 hI1
theorem hv_newL (hE : hv_E p c cc s m args own Ts D cl tys) (hI : hv_I D cl b0 f H0 H locs) (t0 : Nat) (ht : tys[t0]? = some (cA, .long)) (hw : Cond.arrayClass .long ∈ Ts) {z : Int32} (hn : ¬ z < 0) (hz : z.toNatClampNeg = n) (hbytes : n * 8 ≤ 536870912) (hcells : cells + 1 ≤ R.cells) (hslots : slots + n ≤ R.slots) (hd : decode cc pc = .ok (.newarray .long, 2))
    (kk : ∀ (q : Nat) (H1 : Heap), f q = none → hv_I D cl b0 (hv_up f q (.inl (cA, n, .inr (.inl (fun _ => 0))))) H0 H1 locs → W p l e R s m args below meth c H1 locs (cells + 1) (slots + n) Q (F0 m (pc + 2) ls (.ref q :: rest))) : W p l e R s m args below meth c H locs cells slots Q (F0 m pc ls (.int z :: rest)) := by
  obtain ⟨hx, hb, hown, hts, hK⟩ := hE
  refine va_newaK (atype := .long) hx hb (hts _ hw) rfl hd rfl hn hz hbytes hcells hslots rfl fun H1 cB e1 z1 o1 hAr hNm => ?_
  have hcB : cB = cA := Option.some.inj (hNm.symm.trans (hK.2 t0 _ ht).2)
  subst hcB
  obtain ⟨hI1, hn1⟩ := hI.push (x := .inl (cB, n, .inr (.inl (fun _ => 0)))) (by show H1[H.size]? = some (vp_cell _ _); rw [e1]; rfl) z1 o1
  exact kk _ H1 hn1 hI1
theorem hv_newQ (hE : hv_E p c cc s m args own Ts D cl tys) (hI : hv_I D cl b0 f H0 H locs) (t0 : Nat) {B : String} (ht : tys[t0]? = some (cA, .object B)) (hl : Cond.classLink own index B ∈ Ts) (hw : Cond.arrayOver (.object B) ∈ Ts) {z : Int32} (hn : ¬ z < 0) (hz : z.toNatClampNeg = n) (hbytes : n * 4 ≤ 536870912) (hcells : cells + 1 ≤ R.cells) (hslots : slots + n ≤ R.slots) (hd : decode cc pc = .ok (.anewarray index, 3))
    (kk : ∀ (q : Nat) (H1 : Heap), f q = none → hv_I D cl b0 (hv_up f q (.inl (cA, n, .inr (.inr (.inr (.inr (fun _ => none))))))) H0 H1 locs → W p l e R s m args below meth c H1 locs (cells + 1) (slots + n) Q (F0 m (pc + 3) ls (.ref q :: rest))) : W p l e R s m args below meth c H locs cells slots Q (F0 m pc ls (.int z :: rest)) := by
  obtain ⟨hx, hb, hown, hts, hK⟩ := hE
  subst hz
  refine W.anew hx hb hown (hts _ hl) (hts _ hw) rfl hd rfl hn hbytes hcells hslots fun cB kA comp f1 f2 f3 f4 => ?_
  obtain ⟨kA', comp', k1, k2, k3, k4⟩ := (hK.2 t0 _ ht).2
  have hcB : cB = cA := Option.some.inj (f1.symm.trans k4)
  subst hcB
  generalize hH1 : H.push ({ cls := cB, slots := Array.replicate z.toNatClampNeg .null, vm := .none } : Cell) = H1
  have z1 : H1.size = H.size + 1 := by rw [← hH1, Array.size_push]
  have e1 : H1[H.size]? = some (arrV cB z.toNatClampNeg (fun _ => .null)) := by rw [← hH1, Array.getElem?_push_size, ← arrV_new]
  have o1 : ∀ q : Nat, q < H.size → H1[q]? = H[q]? := fun q hq => by rw [← hH1, Array.getElem?_push, if_neg (Nat.ne_of_lt hq)]
  obtain ⟨hI1, hn1⟩ := hI.push (x := .inl (cB, z.toNatClampNeg, .inr (.inr (.inr (.inr (fun _ => none)))))) (by show H1[H.size]? = some (vp_cell _ _); rw [vp_cell_q]; exact e1) z1 o1
  exact kk _ H1 hn1 hI1
/-- an object of the picture, as a receiver -/
theorem hv_recv (hE : hv_E p c cc s m args own Ts D cl tys) (hI : hv_I D cl b0 f H0 H locs) {r : vw_C} (he : f a = some (.inr (ci, fs))) (hc : cl[ci]? = some r) : ∃ cell : Cell, H[a]? = some cell ∧ cell.vm.isStatics = false ∧ s.vm.findClass r.1 = some cell.cls :=
  va_recv hE.2.2.2.2 (hI.one he) hc (q0 := 0) rfl
end HVA
end
section
/-! ===== contracts over pictures ===== -/
/-- Fa holds here, and wherever the tables are warmer and the cells below b0 the same -/
def hv_KK (b0 : Nat) (Fa : State → Prop) (U : State) : Prop := ∀ V : State, U.WarmedH V.vm → (∀ q : Nat, q < b0 → V.heap[q]? = U.heap[q]?) → Fa V
theorem hv_KK.go {b0 : Nat} {Fa : State → Prop} {s t : State} (h : hv_KK b0 Fa s) (hW : s.WarmedH t.vm) (hq : ∀ q : Nat, q < b0 → t.heap[q]? = s.heap[q]?) : hv_KK b0 Fa t :=
  fun V h1 h2 => h V (State.WarmedH.trans hW h1) (fun q hq9 => (h2 q hq9).trans (hq q hq9))
theorem hv_KK.here {b0 : Nat} {Fa : State → Prop} {s : State} (h : hv_KK b0 Fa s) : Fa s := h s (State.WarmedH.refl s) (fun _ _ => rfl)
/-- a state that a method may be called in -/
def hv_U (b0 : Nat) (Fa : State → Prop) (D : va_G) (cl : List vw_C) (f : hv_M) (U : State) : Prop :=
  (∀ (a : Nat) (x : va_E), f a = some x → va_at D cl (a, x) U.heap) ∧ (∀ (a : Nat) (x : va_E), f a = some x → b0 ≤ a) ∧ b0 ≤ U.heap.size ∧ hv_KK b0 Fa U
def hv_Pc (b0 : Nat) (Fa : State → Prop) (D : va_G) (cl : List vw_C) (As : List Value) (f : hv_M) : Array Value → State → Prop := fun v U => v = As.toArray ∧ hv_U b0 Fa D cl f U
/-- how it ends: it returns v, the picture being g, with post; or it throws an E, with thr -/
def hv_Q (b0 : Nat) (Fa : State → Prop) (D : va_G) (cl : List vw_C) (post : Option Value → hv_M → Prop) (thr : String → hv_M → Prop) : State → Outcome → State → Prop := fun st o t =>
  ((∃ (v : Option Value) (g : hv_M), o = .returned v ∧ post v g ∧ hv_U b0 Fa D cl g t) ∨ ∃ (q : Addr) (E : String) (ce : Cell) (g : hv_M), o = .threw q ∧ thr E g ∧ hv_U b0 Fa D cl g t ∧ t.heap[q]? = some ce ∧ ce.vm = .none ∧ st.vm.findClass E = some ce.cls) ∧
    st.heap.size ≤ t.heap.size ∧ ∀ q : Nat, q < b0 → t.heap[q]? = st.heap[q]?
def hv_Met (l : Launch) (y : MethodName) (ws : List Cond) (rm : Room) (b0 : Nat) (Fa : State → Prop) (D : va_G) (cl : List vw_C) (As : List Value) (f : hv_M) (post : Option Value → hv_M → Prop) (thr : String → hv_M → Prop) : Prop :=
  xh_Met l y ws rm (hv_Pc b0 Fa D cl As f) (hv_Q b0 Fa D cl post thr) (fun q => b0 ≤ q)
theorem hv_blind {b0 : Nat} {Fa : State → Prop} {D : va_G} {cl : List vw_C} {As : List Value} {f : hv_M} : FrameBlind (hv_Pc b0 Fa D cl As f) := fun a U g mk h => ⟨h.1, h.2.1, h.2.2.1, h.2.2.2.1, fun V h1 h2 => h.2.2.2.2 V h1 h2⟩
theorem hv_U.start {b0 : Nat} {Fa : State → Prop} {D : va_G} {cl : List vw_C} {f : hv_M} {s : State} (h : hv_U b0 Fa D cl f s) : hv_I D cl b0 f s.heap s.heap [] := ⟨h.1, h.2.1, h.2.2.1, va_S.rf⟩
theorem hv_I.below {D : va_G} {cl : List vw_C} {b0 : Nat} {f : hv_M} {H0 H : Heap} {locs : List Loc} (h : hv_I D cl b0 f H0 H locs) : ∀ q : Nat, q < b0 → H[q]? = H0[q]? := fun q hq => h.2.2.2.2.1 q (Nat.lt_of_lt_of_le hq h.2.2.1) (Nat.not_le.mpr hq)
theorem hv_I.U {D : va_G} {cl : List vw_C} {b0 : Nat} {Fa : State → Prop} {f : hv_M} {s t : State} {H : Heap} {locs : List Loc} (h : hv_I D cl b0 f s.heap H locs) (hK : hv_KK b0 Fa s) (ht : t.heap = H) (hW : s.WarmedH t.vm) : hv_U b0 Fa D cl f t :=
  ⟨fun a x ha => by rw [ht]; exact h.1 a x ha, h.2.1, by rw [ht]; exact Nat.le_trans h.2.2.1 h.2.2.2.1, hK.go hW (fun q hq => by rw [ht]; exact h.below q hq)⟩
theorem hv_I.ret {D : va_G} {cl : List vw_C} {b0 : Nat} {Fa : State → Prop} {f : hv_M} {s t : State} {H : Heap} {locs : List Loc} {post : Option Value → hv_M → Prop} {thr : String → hv_M → Prop} {v : Option Value} (h : hv_I D cl b0 f s.heap H locs) (hK : hv_KK b0 Fa s) (hp : post v f) (ht : t.heap = H) (hW : s.WarmedH t.vm) : hv_Q b0 Fa D cl post thr s (.returned v) t :=
  ⟨Or.inl ⟨v, f, rfl, hp, h.U hK ht hW⟩, by rw [ht]; exact h.2.2.2.1, fun q hq => by rw [ht]; exact h.below q hq⟩
section HVB
variable {p : Program} {l : Launch} {e : Env} {R : Room} {s : State} {m : MethodId} {args : Array Value} {below : List Frame} {meth : Method} {c : Code} {H : Heap} {locs : List Loc} {cells slots : Nat} {Q : State → Prop}
variable {cc : ByteArray} {pc : Nat} {ls : Array Slot} {rest st0 : List Value} {D : va_G} {cl : List vw_C} {b0 mc ms : Nat} {Fa : State → Prop} {f : hv_M} {post : Option Value → hv_M → Prop} {thr : String → hv_M → Prop} {own : String} {Ts : List Cond} {tys : List (ClassId × FieldType)}
theorem hv_iret (hE : hv_E p c cc s m args own Ts D cl tys) (hr : meth.sig.returnType = some .int) (hlocks : meth.locks = false) (hI : hv_I D cl b0 f s.heap H locs) (hK : hv_KK b0 Fa s) {v : Int32} (hp : post (some (.int v)) f) (hc : cells ≤ mc) (hs : slots ≤ ms) (hd : decode cc pc = .ok (.ireturn, 1)) :
    W p l e R s m args below meth c H locs cells slots (xh_MQ below (hv_Q b0 Fa D cl post thr) s mc ms (fun q => b0 ≤ q)) (F0 m pc ls [.int v]) :=
  xh_ret hc hs (W.iret hE.1 hE.2.1 hr (fun t ht hW => hI.ret hK hp ht hW) hI.2.2.2.2.2 hd hlocks)
theorem hv_zret (hE : hv_E p c cc s m args own Ts D cl tys) (hr : meth.sig.returnType = some .boolean) (hlocks : meth.locks = false) (hI : hv_I D cl b0 f s.heap H locs) (hK : hv_KK b0 Fa s) {v : Int32} (hn : narrow .boolean (.int v) = .int v) (hp : post (some (.int v)) f) (hc : cells ≤ mc) (hs : slots ≤ ms) (hd : decode cc pc = .ok (.ireturn, 1)) :
    W p l e R s m args below meth c H locs cells slots (xh_MQ below (hv_Q b0 Fa D cl post thr) s mc ms (fun q => b0 ≤ q)) (F0 m pc ls [.int v]) :=
  xh_ret hc hs (W.zret hE.1 hE.2.1 hr hn (fun t ht hW => hI.ret hK hp ht hW) hI.2.2.2.2.2 hd hlocks)
theorem hv_vret (hE : hv_E p c cc s m args own Ts D cl tys) (hr : meth.sig.returnType = none) (hlocks : meth.locks = false) (hI : hv_I D cl b0 f s.heap H locs) (hK : hv_KK b0 Fa s) (hp : post none f) (hc : cells ≤ mc) (hs : slots ≤ ms) (hd : decode cc pc = .ok (.return_, 1)) :
    W p l e R s m args below meth c H locs cells slots (xh_MQ below (hv_Q b0 Fa D cl post thr) s mc ms (fun q => b0 ≤ q)) (F0 m pc ls []) :=
  xh_ret hc hs (W.vret hE.1 hE.2.1 hr (fun t ht hW => hI.ret hK hp ht hW) hI.2.2.2.2.2 hd hlocks)
theorem hv_aret (hE : hv_E p c cc s m args own Ts D cl tys) {rt : FieldType} (hr : meth.sig.returnType = some rt) (hrt : (∃ n, rt = .object n) ∨ ∃ t, rt = .array t) (hlocks : meth.locks = false) (hI : hv_I D cl b0 f s.heap H locs) (hK : hv_KK b0 Fa s) {v : Value} (hv : v = .null ∨ ∃ a, v = .ref a) (hp : post (some v) f) (hc : cells ≤ mc) (hs : slots ≤ ms) (hd : decode cc pc = .ok (.areturn, 1)) :
    W p l e R s m args below meth c H locs cells slots (xh_MQ below (hv_Q b0 Fa D cl post thr) s mc ms (fun q => b0 ≤ q)) (F0 m pc ls [v]) :=
  xh_ret hc hs (W.aret hE.1 hE.2.1 hr hrt hv (fun t ht hW => hI.ret hK hp ht hW) hI.2.2.2.2.2 hd hlocks)
theorem hv_lret (hE : hv_E p c cc s m args own Ts D cl tys) (hr : meth.sig.returnType = some .long) (hlocks : meth.locks = false) (hI : hv_I D cl b0 f s.heap H locs) (hK : hv_KK b0 Fa s) {v : Int64} (hp : post (some (.long v)) f) (hc : cells ≤ mc) (hs : slots ≤ ms) (hd : decode cc pc = .ok (.lreturn, 1)) :
    W p l e R s m args below meth c H locs cells slots (xh_MQ below (hv_Q b0 Fa D cl post thr) s mc ms (fun q => b0 ≤ q)) (F0 m pc ls [.long v]) :=
  xh_ret hc hs (W.lret hE.1 hE.2.1 hr (fun t ht hW => hI.ret hK hp ht hW) hI.2.2.2.2.2 hd hlocks)
/-- what was thrown in a callee leaves this method too -/
theorem hv_out (hout : c.exceptionTable.toList = []) (hlocks : meth.locks = false) (hI : hv_I D cl b0 f s.heap H locs) (hK : hv_KK b0 Fa s) {q : Addr} {E : String} {ce : Cell} (hce : H[q]? = some ce) (hv : ce.vm = .none) (hcl : s.vm.findClass E = some ce.cls) (hp : thr E f) (hc : cells ≤ mc) (hs : slots ≤ ms) :
    xh_W p l e R s m args below meth c H locs cells slots (xh_MQ below (hv_Q b0 Fa D cl post thr) s mc ms (fun q => b0 ≤ q)) (F0 m pc ls rest) q :=
  xh_out hout hlocks (fun t ht hW => ⟨Or.inr ⟨q, E, ce, f, rfl, hp, hI.U hK ht hW, by rw [ht]; exact hce, hv, hcl⟩, by rw [ht]; exact hI.2.2.2.1, fun q hq => by rw [ht]; exact hI.below q hq⟩) hI.2.2.2.2.2 hc hs
/-- throw new E("text") -/
theorem hv_throw (hE : hv_E p c cc s m args own Ts D cl tys) (hl : l.stackTraces = false) {cls text : String} {names : List String} {ik is ic : Nat} (hcls : Bundle.fit cls = true) (hnames : ∀ n ∈ names, Bundle.fit n = true) (hI : hv_I D cl b0 f s.heap H locs) (hK : hv_KK b0 Fa s)
    (hF : ∀ U : State, Fa U → (∀ (A : Array Value) (w : Cond), w ∈ Cond.classLink own ik cls :: Cond.initialized cls :: Bundle.ownAtoms own ic cls names → w.before A U = true) ∧ ∃ sa : Nat, vk_R own is text sa U) (hsize : ls.size = c.maxLocals)
    (d0 : decode cc pc = .ok (.new ik, 3)) (d3 : decode cc (pc + 3) = .ok (.dup, 1)) (d4 : decode cc (pc + 4) = .ok (.ldc is, 2)) (d6 : decode cc (pc + 6) = .ok (.invokespecial ic, 3)) (d9 : decode cc (pc + 9) = .ok (.athrow, 1))
    (hout : c.exceptionTable.toList = []) (hRf : names.length + 3 < R.frames) (hRl : (rest.map fun v => v.category).sum + (13 * (names.length + 1) + 43) ≤ R.locals) (hlocks : meth.locks = false) (hp : thr cls f) (hc : cells + 1 ≤ mc) (hs : slots + 6 ≤ ms) (hmc : mc ≤ R.cells) (hms : ms ≤ R.slots) :
    W p l e R s m args below meth c H locs cells slots (xh_MQ below (hv_Q b0 Fa D cl post thr) s mc ms (fun q => b0 ≤ q)) (F0 m pc ls rest) := by
  refine xh_throw hE.1 hE.2.1 hl hE.2.2.1 hcls hnames (fun U hW hq => hF U (hK U hW hq)) hI.below hsize d0 d3 d4 d6 d9 hout hRf hRl hlocks (fun t q ce hW hz hk hq hce hv hcl => ?_) hI.2.2.2.2.2 hc hs hmc hms
  have hk0 : ∀ q : Nat, q < b0 → t.heap[q]? = s.heap[q]? := fun q hq => by
    have h9 : q < H.size := Nat.lt_of_lt_of_le hq (Nat.le_trans hI.2.2.1 hI.2.2.2.1)
    rw [hk q h9]; exact hI.below q hq
  refine ⟨Or.inr ⟨q, cls, ce, f, rfl, hp, ⟨fun a x ha => (hI.1 a x ha).kept (hk a (hI.1 a x ha).lt), hI.2.1, Nat.le_trans (Nat.le_trans hI.2.2.1 hI.2.2.2.1) hz, hK.go hW hk0⟩, hce, hv, hcl⟩, Nat.le_trans hI.2.2.2.1 hz, hk0⟩
/-- behind a call: it has returned, or thrown -/
theorem hv_call {rm : Room} (hr : xh_Run p l e R s m args below meth c H locs cells slots (F0 m pc ls st0) rest rm (hv_Q b0 Fa D cl post thr) (fun q => b0 ≤ q)) (hI : hv_I D cl b0 f s.heap H locs)
    (kr : ∀ (v : Option Value) (g : hv_M) (H1 : Heap) (locs1 : List Loc), post v g → hv_I D cl b0 g s.heap H1 locs1 → W p l e R s m args below meth c H1 locs1 (cells + rm.cells) (slots + rm.slots) Q (F0 m (pc + 3) ls (v.toList ++ rest)))
    (kx : ∀ (q : Addr) (E : String) (ce : Cell) (g : hv_M) (H1 : Heap) (locs1 : List Loc), thr E g → hv_I D cl b0 g s.heap H1 locs1 → H1[q]? = some ce → ce.vm = .none → s.vm.findClass E = some ce.cls → xh_W p l e R s m args below meth c H1 locs1 (cells + rm.cells) (slots + rm.slots) Q (F0 m pc ls rest) q) :
    W p l e R s m args below meth c H locs cells slots Q (F0 m pc ls st0) := by
  intro T hT X
  obtain ⟨o, st, t, V, L, hst, hWs, XV, e1, e2, hL, ⟨hq, hz, hk⟩, hsteps⟩ := hr T hT X
  have mk : ∀ g : hv_M, hv_U b0 Fa D cl g t → hv_I D cl b0 g s.heap V.heap (locs ++ L) := fun g hU => by
    refine ⟨fun a x ha => by rw [e1]; exact hU.1 a x ha, hU.2.1, hI.2.2.1, ?_, ?_, ?_⟩
    · rw [e1]
      exact Nat.le_trans hI.2.2.2.1 (by rw [← hst]; exact hz)
    · intro q _ hq2
      have hq3 : q < b0 := Nat.not_le.mp hq2
      rw [e1, hk q hq3, hst]
      exact hI.below q hq3
    · intro z hz2
      rcases List.mem_append.mp hz2 with h | h
      · exact hI.2.2.2.2.2 z h
      · exact hL z h
  rcases hq with ⟨v, g, rfl, hp, hU⟩ | ⟨q, E, ce, g, rfl, hp, hU, hce, hcv, hcl⟩
  · obtain ⟨t2, a1, b1⟩ := kr v g V.heap (locs ++ L) hp (mk g hU) V rfl XV
    exact ⟨t2, hsteps.trans a1, b1⟩
  · have hcl' : s.vm.findClass E = some ce.cls := by
      rw [hWs.alike.findClass] at hcl
      exact hcl
    obtain ⟨t2, a1, b1⟩ := kx q E ce g V.heap (locs ++ L) hp (mk g hU) (by rw [e1]; exact hce) hcv hcl' V rfl XV
    exact ⟨t2, hsteps.trans a1, b1⟩
end HVB
end
section
/-! ===== words that stay true in warmer tables, over the same cells below ===== -/
def hv_st : Cond → Bool
  | .fieldLinkNest .. => true
  | .methodLinkNest .. => true
  | .arrayOver (.object _) => true
  | w => goodWord w || (w.onTables && w.keepsCast)
theorem hv_stay {s V : State} {A A' : Array Value} (hW : s.WarmedH V.vm) : ∀ w : Cond, hv_st w = true → w.before A s = true → w.before A' V = true := by
  intro w hw h
  have key : ∀ w : Cond, (goodWord w || (w.onTables && w.keepsCast)) = true → w.before A s = true → w.before A' V = true := by
    intro w hw h
    simp only [Bool.or_eq_true, Bool.and_eq_true] at hw
    rcases hw with hw | ⟨h1, h2⟩
    · exact word_at hW (good_of_word hw) h
    · exact va_tabs h1 (rfl : (s.setVm V.vm).vm = V.vm) (Cond.before_shiftedCast (State.Shifted.of_warmed hW) w h2 h)
  cases w with
  | fieldLinkNest a i b n d h9 => exact va_tabs rfl (rfl : (s.setVm V.vm).vm = V.vm) (Cond.fieldLinkNest_warmed hW h)
  | methodLinkNest a i x h9 => exact va_tabs rfl (rfl : (s.setVm V.vm).vm = V.vm) (Cond.methodLinkNest_warmed hW h)
  | arrayOver t =>
    cases t with
    | object C => exact va_AO.use (va_AO.moved hW.alike (va_AO.of h))
    | _ => exact key _ hw h
  | _ => exact key _ hw h
/-- where a static field lies: a cell below b0 -/
theorem hv_stayL {s V : State} {A A' : Array Value} {b0 : Nat} {C n d : String} (hW : s.WarmedH V.vm) (hb : s.heap.size ≤ b0) (hq : ∀ q : Nat, q < b0 → V.heap[q]? = s.heap[q]?) (h : (Cond.laysStatic C n d).before A s = true) : (Cond.laysStatic C n d).before A' V = true := by
  obtain ⟨c, k, i, f, a, cell, h1, h2, h3, h4, h5, h6, h7, h8, h9⟩ := Cond.laysStatic_spec h
  obtain ⟨k', hi', he⟩ := State.fieldFound?_setVm hW.alike h2
  have hlt : a < s.heap.size := (Array.getElem?_eq_some_iff.mp h5).1
  show (Cond.laysStatic C n d).holds A' V none V [] = true
  exact Cond.laysStatic_of (by rw [hW.alike.findClass]; exact h1) hi' h3 (by rw [he]; exact h4) (by rw [hq a (Nat.lt_of_lt_of_le hlt hb)]; exact h5) h6 h7 h8 (by rw [he]; exact h9)
/-- .. and it holds a reference, or null -/
theorem hv_stayR {s V : State} {A A' : Array Value} {b0 : Nat} {C n d : String} (hW : s.WarmedH V.vm) (hb : s.heap.size ≤ b0) (hq : ∀ q : Nat, q < b0 → V.heap[q]? = s.heap[q]?) (hl : (Cond.laysStatic C n d).before A s = true) (h : (Cond.isRef (.static C n d)).before A s = true) : (Cond.isRef (.static C n d)).before A' V = true := by
  obtain ⟨c, k, i, f, a, cell, h1, h2, h3, h4, h5, h6, h7, h8, h9⟩ := Cond.laysStatic_spec hl
  obtain ⟨k', hi', he⟩ := State.fieldFound?_setVm hW.alike h2
  have hlt : a < s.heap.size := (Array.getElem?_eq_some_iff.mp h5).1
  cases hv : (Term.static C n d).eval A s none [] s with
  | none => simp [Cond.before, Cond.holds, Cond.value, hv] at h
  | some w =>
    obtain ⟨-, a', cell', ha', hcell', -, hslot⟩ := Term.static_spec h2 hv
    cases h4.symm.trans ha'
    cases h5.symm.trans hcell'
    have h5' : V.heap[a]? = some cell := by rw [hq a (Nat.lt_of_lt_of_le hlt hb)]; exact h5
    have h4' : k'.statics = some a := by rw [he]; exact h4
    have hi2 : V.fieldFound? C n d = some (c, k', i, f) := hi'
    have hv' : (Term.static C n d).eval A' V none [] V = some w := by
      simp [Term.eval, State.fieldNamed?, hi2, h3, h4', h5', h6, hslot]
    simp only [Cond.before, Cond.holds, Cond.value, hv] at h
    simp only [Cond.before, Cond.holds, Cond.value, hv']
    exact h
end
section
/-! ===== the words that stay, by their places ===== -/
def TS : List Cond := lw_tbl.filter hv_st
theorem hv_ts {i : Nat} {w : Cond} (h : lw_tbl[i]? = some w) (hs : hv_st w = true) : w ∈ TS := List.mem_filter.mpr ⟨List.mem_of_getElem? h, hs⟩
theorem ws0 : Cond.selects "java/lang/Throwable" ⟨"java/lang/Throwable", "fillInStackTrace", "(I)Ljava/lang/Throwable;"⟩ ⟨"java/lang/Throwable", "fillInStackTrace", "(I)Ljava/lang/Throwable;"⟩ ∈ TS := hv_ts (i := 0) (by decide +kernel) (by decide +kernel)
theorem ws1 : Cond.selects "BoxPacker" ⟨"BoxPacker", "refuseWhenFull", "()V"⟩ ⟨"BoxPacker", "refuseWhenFull", "()V"⟩ ∈ TS := hv_ts (i := 1) (by decide +kernel) (by decide +kernel)
theorem ws2 : Cond.selects "BoxPacker" ⟨"BoxPacker", "append", "(LBoxPacker$Item;)I"⟩ ⟨"BoxPacker", "append", "(LBoxPacker$Item;)I"⟩ ∈ TS := hv_ts (i := 2) (by decide +kernel) (by decide +kernel)
theorem ws3 : Cond.selects "BoxPacker" ⟨"BoxPacker", "boxNumbered", "(I)LBoxPacker$Box;"⟩ ⟨"BoxPacker", "boxNumbered", "(I)LBoxPacker$Box;"⟩ ∈ TS := hv_ts (i := 3) (by decide +kernel) (by decide +kernel)
theorem ws4 : Cond.selects "BoxPacker$Box" ⟨"BoxPacker$Box", "fit", "(III)V"⟩ ⟨"BoxPacker$Box", "fit", "(III)V"⟩ ∈ TS := hv_ts (i := 4) (by decide +kernel) (by decide +kernel)
theorem ws5 : Cond.selects "BoxPacker$Box" ⟨"BoxPacker$Box", "measureBelow", "(I)V"⟩ ⟨"BoxPacker$Box", "measureBelow", "(I)V"⟩ ∈ TS := hv_ts (i := 5) (by decide +kernel) (by decide +kernel)
theorem ws6 : Cond.selects "BoxPacker$Box" ⟨"BoxPacker$Box", "measureAlong", "()V"⟩ ⟨"BoxPacker$Box", "measureAlong", "()V"⟩ ∈ TS := hv_ts (i := 6) (by decide +kernel) (by decide +kernel)
theorem ws7 : Cond.selects "BoxPacker$Box" ⟨"BoxPacker$Box", "gives", "(Z)[I"⟩ ⟨"BoxPacker$Box", "gives", "(Z)[I"⟩ ∈ TS := hv_ts (i := 7) (by decide +kernel) (by decide +kernel)
theorem ws8 : Cond.selects "BoxPacker$Space" ⟨"BoxPacker$Space", "giveOrder", "(Z)I"⟩ ⟨"BoxPacker$Space", "giveOrder", "(Z)I"⟩ ∈ TS := hv_ts (i := 8) (by decide +kernel) (by decide +kernel)
theorem ws9 : Cond.selects "BoxPacker$Space" ⟨"BoxPacker$Space", "give", "(Z)I"⟩ ⟨"BoxPacker$Space", "give", "(Z)I"⟩ ∈ TS := hv_ts (i := 9) (by decide +kernel) (by decide +kernel)
theorem ws10 : Cond.selects "BoxPacker$Box" ⟨"BoxPacker$Box", "fillUp", "(II)V"⟩ ⟨"BoxPacker$Box", "fillUp", "(II)V"⟩ ∈ TS := hv_ts (i := 10) (by decide +kernel) (by decide +kernel)
theorem ws11 : Cond.selects "BoxPacker$Box" ⟨"BoxPacker$Box", "findTotal", "([I)V"⟩ ⟨"BoxPacker$Box", "findTotal", "([I)V"⟩ ∈ TS := hv_ts (i := 11) (by decide +kernel) (by decide +kernel)
theorem ws12 : Cond.selects "BoxPacker$Box" ⟨"BoxPacker$Box", "addShares", "()V"⟩ ⟨"BoxPacker$Box", "addShares", "()V"⟩ ∈ TS := hv_ts (i := 12) (by decide +kernel) (by decide +kernel)
theorem ws13 : Cond.selects "BoxPacker$Box" ⟨"BoxPacker$Box", "badness", "()I"⟩ ⟨"BoxPacker$Box", "badness", "()I"⟩ ∈ TS := hv_ts (i := 13) (by decide +kernel) (by decide +kernel)
theorem ws14 : Cond.selects "BoxPacker$Marks" ⟨"BoxPacker$Marks", "clear", "()V"⟩ ⟨"BoxPacker$Marks", "clear", "()V"⟩ ∈ TS := hv_ts (i := 14) (by decide +kernel) (by decide +kernel)
theorem ws15 : Cond.selects "BoxPacker" ⟨"BoxPacker", "layOut", "(LBoxPacker$Box;JJ)Z"⟩ ⟨"BoxPacker", "layOut", "(LBoxPacker$Box;JJ)Z"⟩ ∈ TS := hv_ts (i := 15) (by decide +kernel) (by decide +kernel)
theorem ws16 : Cond.selects "BoxPacker" ⟨"BoxPacker", "layOutItem", "(LBoxPacker$Box;LBoxPacker$Solid;IJJ)Z"⟩ ⟨"BoxPacker", "layOutItem", "(LBoxPacker$Box;LBoxPacker$Solid;IJJ)Z"⟩ ∈ TS := hv_ts (i := 16) (by decide +kernel) (by decide +kernel)
theorem ws17 : Cond.selects "BoxPacker$Marks" ⟨"BoxPacker$Marks", "add", "(IJJIII)Z"⟩ ⟨"BoxPacker$Marks", "add", "(IJJIII)Z"⟩ ∈ TS := hv_ts (i := 17) (by decide +kernel) (by decide +kernel)
theorem ws18 : Cond.selects "BoxPackerModel" ⟨"BoxPackerModel", "isFull", "()Z"⟩ ⟨"BoxPackerModel", "isFull", "()Z"⟩ ∈ TS := hv_ts (i := 18) (by decide +kernel) (by decide +kernel)
theorem ws19 : Cond.selects "BoxPackerModel" ⟨"BoxPackerModel", "append", "(IIIIII)I"⟩ ⟨"BoxPackerModel", "append", "(IIIIII)I"⟩ ∈ TS := hv_ts (i := 19) (by decide +kernel) (by decide +kernel)
theorem ws20 : Cond.selects "BoxPackerModel" ⟨"BoxPackerModel", "isBox", "(I)Z"⟩ ⟨"BoxPackerModel", "isBox", "(I)Z"⟩ ∈ TS := hv_ts (i := 20) (by decide +kernel) (by decide +kernel)
theorem ws21 : Cond.selects "BoxPackerModel" ⟨"BoxPackerModel", "deepest", "()I"⟩ ⟨"BoxPackerModel", "deepest", "()I"⟩ ∈ TS := hv_ts (i := 21) (by decide +kernel) (by decide +kernel)
theorem ws22 : Cond.selects "BoxPackerModel" ⟨"BoxPackerModel", "number", "(II)I"⟩ ⟨"BoxPackerModel", "number", "(II)I"⟩ ∈ TS := hv_ts (i := 22) (by decide +kernel) (by decide +kernel)
theorem ws23 : Cond.selects "BoxPackerModel" ⟨"BoxPackerModel", "clear", "()V"⟩ ⟨"BoxPackerModel", "clear", "()V"⟩ ∈ TS := hv_ts (i := 23) (by decide +kernel) (by decide +kernel)
theorem ws24 : Cond.selects "BoxPackerModel" ⟨"BoxPackerModel", "add", "(IZ)V"⟩ ⟨"BoxPackerModel", "add", "(IZ)V"⟩ ∈ TS := hv_ts (i := 24) (by decide +kernel) (by decide +kernel)
theorem ws25 : Cond.selects "BoxPackerModel" ⟨"BoxPackerModel", "isSolid", "(I)Z"⟩ ⟨"BoxPackerModel", "isSolid", "(I)Z"⟩ ∈ TS := hv_ts (i := 25) (by decide +kernel) (by decide +kernel)
theorem ws26 : Cond.selects "BoxPackerModel" ⟨"BoxPackerModel", "addSolid", "(IZ)V"⟩ ⟨"BoxPackerModel", "addSolid", "(IZ)V"⟩ ∈ TS := hv_ts (i := 26) (by decide +kernel) (by decide +kernel)
theorem ws27 : Cond.selects "BoxPackerModel" ⟨"BoxPackerModel", "grow", "(J)V"⟩ ⟨"BoxPackerModel", "grow", "(J)V"⟩ ∈ TS := hv_ts (i := 27) (by decide +kernel) (by decide +kernel)
theorem ws28 : Cond.selects "BoxPackerModel" ⟨"BoxPackerModel", "sizeOf", "(II)I"⟩ ⟨"BoxPackerModel", "sizeOf", "(II)I"⟩ ∈ TS := hv_ts (i := 28) (by decide +kernel) (by decide +kernel)
theorem ws29 : Cond.selects "BoxPackerModel" ⟨"BoxPackerModel", "solid", "(II)I"⟩ ⟨"BoxPackerModel", "solid", "(II)I"⟩ ∈ TS := hv_ts (i := 29) (by decide +kernel) (by decide +kernel)
theorem ws30 : Cond.selects "BoxPackerModel" ⟨"BoxPackerModel", "greater", "(JJ)J"⟩ ⟨"BoxPackerModel", "greater", "(JJ)J"⟩ ∈ TS := hv_ts (i := 30) (by decide +kernel) (by decide +kernel)
theorem ws31 : Cond.selects "BoxPackerModel" ⟨"BoxPackerModel", "setGlue", "(IJ)V"⟩ ⟨"BoxPackerModel", "setGlue", "(IJ)V"⟩ ∈ TS := hv_ts (i := 31) (by decide +kernel) (by decide +kernel)
theorem ws32 : Cond.selects "BoxPackerModel" ⟨"BoxPackerModel", "countAll", "()I"⟩ ⟨"BoxPackerModel", "countAll", "()I"⟩ ∈ TS := hv_ts (i := 32) (by decide +kernel) (by decide +kernel)
theorem ws33 : Cond.selects "BoxPackerModel" ⟨"BoxPackerModel", "placeOf", "(II)J"⟩ ⟨"BoxPackerModel", "placeOf", "(II)J"⟩ ∈ TS := hv_ts (i := 33) (by decide +kernel) (by decide +kernel)
theorem ws34 : Cond.selects "BoxPackerModel" ⟨"BoxPackerModel", "layBox", "(IJJ)Z"⟩ ⟨"BoxPackerModel", "layBox", "(IJJ)Z"⟩ ∈ TS := hv_ts (i := 34) (by decide +kernel) (by decide +kernel)
theorem ws35 : Cond.selects "BoxPackerModel" ⟨"BoxPackerModel", "note", "(IJJJJJ)Z"⟩ ⟨"BoxPackerModel", "note", "(IJJJJJ)Z"⟩ ∈ TS := hv_ts (i := 35) (by decide +kernel) (by decide +kernel)
theorem ws36 : Cond.selects "BoxPackerModel" ⟨"BoxPackerModel", "ruled", "(III)J"⟩ ⟨"BoxPackerModel", "ruled", "(III)J"⟩ ∈ TS := hv_ts (i := 36) (by decide +kernel) (by decide +kernel)
theorem w0 : Cond.initialized "BoxPackerLaw" ∈ TS := hv_ts (i := 37) (by decide +kernel) (by decide +kernel)
theorem w1 : Cond.initialized "BoxPacker" ∈ TS := hv_ts (i := 38) (by decide +kernel) (by decide +kernel)
theorem w2 : Cond.initialized "BoxPacker$Marks" ∈ TS := hv_ts (i := 39) (by decide +kernel) (by decide +kernel)
theorem w3 : Cond.initialized "BoxPackerModel" ∈ TS := hv_ts (i := 40) (by decide +kernel) (by decide +kernel)
theorem w4 : Cond.initialized "java/lang/Throwable" ∈ TS := hv_ts (i := 41) (by decide +kernel) (by decide +kernel)
theorem w5 : Cond.initialized "java/lang/Exception" ∈ TS := hv_ts (i := 42) (by decide +kernel) (by decide +kernel)
theorem w6 : Cond.initialized "java/lang/RuntimeException" ∈ TS := hv_ts (i := 43) (by decide +kernel) (by decide +kernel)
theorem w7 : Cond.initialized "java/lang/IllegalArgumentException" ∈ TS := hv_ts (i := 44) (by decide +kernel) (by decide +kernel)
theorem w8 : Cond.initialized "java/lang/UnsupportedOperationException" ∈ TS := hv_ts (i := 45) (by decide +kernel) (by decide +kernel)
theorem w9 : Cond.initialized "BoxPacker$Item" ∈ TS := hv_ts (i := 46) (by decide +kernel) (by decide +kernel)
theorem w10 : Cond.initialized "BoxPacker$Solid" ∈ TS := hv_ts (i := 47) (by decide +kernel) (by decide +kernel)
theorem w11 : Cond.initialized "BoxPacker$Space" ∈ TS := hv_ts (i := 48) (by decide +kernel) (by decide +kernel)
theorem w12 : Cond.initialized "java/lang/IndexOutOfBoundsException" ∈ TS := hv_ts (i := 49) (by decide +kernel) (by decide +kernel)
theorem w13 : Cond.initialized "BoxPacker$Box" ∈ TS := hv_ts (i := 50) (by decide +kernel) (by decide +kernel)
theorem w14 : Cond.initialized "java/lang/Math" ∈ TS := hv_ts (i := 51) (by decide +kernel) (by decide +kernel)
theorem w15 : Cond.initialized "java/lang/IllegalStateException" ∈ TS := hv_ts (i := 52) (by decide +kernel) (by decide +kernel)
theorem w16 : Cond.classLink "BoxPackerLaw" 8 "BoxPacker" ∈ TS := hv_ts (i := 53) (by decide +kernel) (by decide +kernel)
theorem w17 : Cond.instantiable "BoxPacker" 5 ∈ TS := hv_ts (i := 54) (by decide +kernel) (by decide +kernel)
theorem w18 : Cond.methodLink "BoxPackerLaw" 54 ⟨"BoxPacker", "<init>", "()V"⟩ ∈ TS := hv_ts (i := 55) (by decide +kernel) (by decide +kernel)
theorem w19 : Cond.instanceMethod ⟨"BoxPacker", "<init>", "()V"⟩ ∈ TS := hv_ts (i := 56) (by decide +kernel) (by decide +kernel)
theorem w20 : Cond.code ⟨"BoxPacker", "<init>", "()V"⟩ prog_1_method_1_code 1 none ∈ TS := hv_ts (i := 57) (by decide +kernel) (by decide +kernel)
theorem w21 : Cond.methodLink "BoxPacker" 1 ⟨"java/lang/Object", "<init>", "()V"⟩ ∈ TS := hv_ts (i := 58) (by decide +kernel) (by decide +kernel)
theorem w22 : Cond.instanceMethod ⟨"java/lang/Object", "<init>", "()V"⟩ ∈ TS := hv_ts (i := 59) (by decide +kernel) (by decide +kernel)
theorem w23 : Cond.code ⟨"java/lang/Object", "<init>", "()V"⟩ object_method_1_code 1 none ∈ TS := hv_ts (i := 60) (by decide +kernel) (by decide +kernel)
theorem w24 : Cond.classLink "BoxPacker" 9 "BoxPacker$Item" ∈ TS := hv_ts (i := 61) (by decide +kernel) (by decide +kernel)
theorem w25 : Cond.arrayOver (FieldType.object "BoxPacker$Item") ∈ TS := hv_ts (i := 62) (by decide +kernel) (by decide +kernel)
theorem w26 : Cond.classLink "BoxPacker" 19 "BoxPacker$Box" ∈ TS := hv_ts (i := 63) (by decide +kernel) (by decide +kernel)
theorem w27 : Cond.arrayOver (FieldType.object "BoxPacker$Box") ∈ TS := hv_ts (i := 64) (by decide +kernel) (by decide +kernel)
theorem w28 : Cond.classLink "BoxPacker" 28 "BoxPacker$Marks" ∈ TS := hv_ts (i := 65) (by decide +kernel) (by decide +kernel)
theorem w29 : Cond.instantiable "BoxPacker$Marks" 2 ∈ TS := hv_ts (i := 66) (by decide +kernel) (by decide +kernel)
theorem w30 : Cond.methodLinkNest "BoxPacker" 30 ⟨"BoxPacker$Marks", "<init>", "()V"⟩ "BoxPacker" ∈ TS := hv_ts (i := 67) (by decide +kernel) (by decide +kernel)
theorem w31 : Cond.instanceMethod ⟨"BoxPacker$Marks", "<init>", "()V"⟩ ∈ TS := hv_ts (i := 68) (by decide +kernel) (by decide +kernel)
theorem w32 : Cond.code ⟨"BoxPacker$Marks", "<init>", "()V"⟩ prog_4_method_1_code 1 none ∈ TS := hv_ts (i := 69) (by decide +kernel) (by decide +kernel)
theorem w33 : Cond.methodLink "BoxPacker$Marks" 3 ⟨"java/lang/Object", "<init>", "()V"⟩ ∈ TS := hv_ts (i := 70) (by decide +kernel) (by decide +kernel)
theorem w34 : Cond.fieldLink "BoxPacker$Marks" 11 "BoxPacker$Marks" "row" "[J" ∈ TS := hv_ts (i := 71) (by decide +kernel) (by decide +kernel)
theorem w35 : Cond.fieldLinkNest "BoxPacker" 166 "BoxPacker$Marks" "row" "[J" "BoxPacker" ∈ TS := hv_ts (i := 72) (by decide +kernel) (by decide +kernel)
theorem w36 : Cond.fieldLink "BoxPacker$Marks" 15 "BoxPacker$Marks" "count" "I" ∈ TS := hv_ts (i := 73) (by decide +kernel) (by decide +kernel)
theorem w37 : Cond.fieldLinkNest "BoxPacker" 159 "BoxPacker$Marks" "count" "I" "BoxPacker" ∈ TS := hv_ts (i := 74) (by decide +kernel) (by decide +kernel)
theorem w38 : Cond.laysFinal "BoxPacker$Marks" "BoxPacker$Marks" "row" "[J" ∈ TS := hv_ts (i := 75) (by decide +kernel) (by decide +kernel)
theorem w40 : Cond.lays "BoxPacker$Marks" "BoxPacker$Marks" "count" "I" ∈ TS := hv_ts (i := 77) (by decide +kernel) (by decide +kernel)
theorem w42 : Cond.superclass "BoxPacker$Marks" "java/lang/Object" ∈ TS := hv_ts (i := 79) (by decide +kernel) (by decide +kernel)
theorem w43 : Cond.arrayClass FieldType.long ∈ TS := hv_ts (i := 80) (by decide +kernel) (by decide +kernel)
theorem w44 : Cond.fieldLink "BoxPacker" 11 "BoxPacker" "list" "[LBoxPacker$Item;" ∈ TS := hv_ts (i := 81) (by decide +kernel) (by decide +kernel)
theorem w45 : Cond.fieldLink "BoxPacker" 15 "BoxPacker" "listed" "I" ∈ TS := hv_ts (i := 82) (by decide +kernel) (by decide +kernel)
theorem w46 : Cond.fieldLink "BoxPacker" 21 "BoxPacker" "made" "[LBoxPacker$Box;" ∈ TS := hv_ts (i := 83) (by decide +kernel) (by decide +kernel)
theorem w47 : Cond.fieldLink "BoxPacker" 25 "BoxPacker" "boxesMade" "I" ∈ TS := hv_ts (i := 84) (by decide +kernel) (by decide +kernel)
theorem w48 : Cond.fieldLink "BoxPacker" 31 "BoxPacker" "marks" "LBoxPacker$Marks;" ∈ TS := hv_ts (i := 85) (by decide +kernel) (by decide +kernel)
theorem w49 : Cond.laysFinal "BoxPacker" "BoxPacker" "list" "[LBoxPacker$Item;" ∈ TS := hv_ts (i := 86) (by decide +kernel) (by decide +kernel)
theorem w51 : Cond.lays "BoxPacker" "BoxPacker" "listed" "I" ∈ TS := hv_ts (i := 88) (by decide +kernel) (by decide +kernel)
theorem w53 : Cond.laysFinal "BoxPacker" "BoxPacker" "made" "[LBoxPacker$Box;" ∈ TS := hv_ts (i := 90) (by decide +kernel) (by decide +kernel)
theorem w55 : Cond.lays "BoxPacker" "BoxPacker" "boxesMade" "I" ∈ TS := hv_ts (i := 92) (by decide +kernel) (by decide +kernel)
theorem w57 : Cond.laysFinal "BoxPacker" "BoxPacker" "marks" "LBoxPacker$Marks;" ∈ TS := hv_ts (i := 94) (by decide +kernel) (by decide +kernel)
theorem w59 : Cond.superclass "BoxPacker" "java/lang/Object" ∈ TS := hv_ts (i := 96) (by decide +kernel) (by decide +kernel)
theorem w60 : Cond.methodLink "BoxPackerLaw" 84 ⟨"BoxPacker", "keep", "(I)Z"⟩ ∈ TS := hv_ts (i := 97) (by decide +kernel) (by decide +kernel)
theorem w61 : Cond.instanceMethod ⟨"BoxPacker", "keep", "(I)Z"⟩ ∈ TS := hv_ts (i := 98) (by decide +kernel) (by decide +kernel)
theorem w62 : Cond.selects "BoxPacker" ⟨"BoxPacker", "keep", "(I)Z"⟩ ⟨"BoxPacker", "keep", "(I)Z"⟩ ∈ TS := hv_ts (i := 99) (by decide +kernel) (by decide +kernel)
theorem w63 : Cond.code ⟨"BoxPacker", "keep", "(I)Z"⟩ prog_1_method_7_code 2 (some FieldType.boolean) ∈ TS := hv_ts (i := 100) (by decide +kernel) (by decide +kernel)
theorem w64 : Cond.methodLink "BoxPackerLaw" 89 ⟨"BoxPacker", "items", "()I"⟩ ∈ TS := hv_ts (i := 101) (by decide +kernel) (by decide +kernel)
theorem w65 : Cond.instanceMethod ⟨"BoxPacker", "items", "()I"⟩ ∈ TS := hv_ts (i := 102) (by decide +kernel) (by decide +kernel)
theorem w66 : Cond.selects "BoxPacker" ⟨"BoxPacker", "items", "()I"⟩ ⟨"BoxPacker", "items", "()I"⟩ ∈ TS := hv_ts (i := 103) (by decide +kernel) (by decide +kernel)
theorem w67 : Cond.code ⟨"BoxPacker", "items", "()I"⟩ prog_1_method_8_code 1 (some FieldType.int) ∈ TS := hv_ts (i := 104) (by decide +kernel) (by decide +kernel)
theorem w68 : Cond.methodLink "BoxPackerLaw" 97 ⟨"BoxPacker", "boxes", "()I"⟩ ∈ TS := hv_ts (i := 105) (by decide +kernel) (by decide +kernel)
theorem w69 : Cond.instanceMethod ⟨"BoxPacker", "boxes", "()I"⟩ ∈ TS := hv_ts (i := 106) (by decide +kernel) (by decide +kernel)
theorem w70 : Cond.selects "BoxPacker" ⟨"BoxPacker", "boxes", "()I"⟩ ⟨"BoxPacker", "boxes", "()I"⟩ ∈ TS := hv_ts (i := 107) (by decide +kernel) (by decide +kernel)
theorem w71 : Cond.code ⟨"BoxPacker", "boxes", "()I"⟩ prog_1_method_10_code 1 (some FieldType.int) ∈ TS := hv_ts (i := 108) (by decide +kernel) (by decide +kernel)
theorem w72 : Cond.methodLink "BoxPackerLaw" 58 ⟨"BoxPackerLaw", "leaf", "(LBoxPacker;IIII[J)I"⟩ ∈ TS := hv_ts (i := 109) (by decide +kernel) (by decide +kernel)
theorem w73 : Cond.static ⟨"BoxPackerLaw", "leaf", "(LBoxPacker;IIII[J)I"⟩ ∈ TS := hv_ts (i := 110) (by decide +kernel) (by decide +kernel)
theorem w74 : Cond.codeWith ⟨"BoxPackerLaw", "leaf", "(LBoxPacker;IIII[J)I"⟩ method_3_code 7 (some FieldType.int) [(0, 14, 17, 13), (0, 14, 21, 15)] ∈ TS := hv_ts (i := 111) (by decide +kernel) (by decide +kernel)
theorem w75 : Cond.classLink "BoxPackerLaw" 13 "java/lang/IllegalArgumentException" ∈ TS := hv_ts (i := 112) (by decide +kernel) (by decide +kernel)
theorem w76 : Cond.classLink "BoxPackerLaw" 15 "java/lang/UnsupportedOperationException" ∈ TS := hv_ts (i := 113) (by decide +kernel) (by decide +kernel)
theorem w77 : Cond.methodLink "BoxPackerLaw" 7 ⟨"BoxPacker", "leaf", "(IIII)I"⟩ ∈ TS := hv_ts (i := 114) (by decide +kernel) (by decide +kernel)
theorem w78 : Cond.instanceMethod ⟨"BoxPacker", "leaf", "(IIII)I"⟩ ∈ TS := hv_ts (i := 115) (by decide +kernel) (by decide +kernel)
theorem w79 : Cond.selects "BoxPacker" ⟨"BoxPacker", "leaf", "(IIII)I"⟩ ⟨"BoxPacker", "leaf", "(IIII)I"⟩ ∈ TS := hv_ts (i := 116) (by decide +kernel) (by decide +kernel)
theorem w80 : Cond.code ⟨"BoxPacker", "leaf", "(IIII)I"⟩ prog_1_method_2_code 5 (some FieldType.int) ∈ TS := hv_ts (i := 117) (by decide +kernel) (by decide +kernel)
theorem w81 : Cond.constant "BoxPacker" 35 65535 ∈ TS := hv_ts (i := 118) (by decide +kernel) (by decide +kernel)
theorem w82 : Cond.classLink "BoxPacker" 36 "java/lang/IllegalArgumentException" ∈ TS := hv_ts (i := 119) (by decide +kernel) (by decide +kernel)
theorem w83 : Cond.instantiable "java/lang/IllegalArgumentException" 6 ∈ TS := hv_ts (i := 120) (by decide +kernel) (by decide +kernel)
theorem w84 : Cond.castable "java/lang/IllegalArgumentException" "java/lang/IllegalArgumentException" ∈ TS := hv_ts (i := 121) (by decide +kernel) (by decide +kernel)
theorem w85 : Cond.declares ⟨"java/lang/RuntimeException", "<init>", "()V"⟩ ∈ TS := hv_ts (i := 122) (by decide +kernel) (by decide +kernel)
theorem w86 : Cond.declares ⟨"java/lang/RuntimeException", "<init>", "(Ljava/lang/String;)V"⟩ ∈ TS := hv_ts (i := 123) (by decide +kernel) (by decide +kernel)
theorem w87 : Cond.declares ⟨"java/lang/Exception", "<init>", "()V"⟩ ∈ TS := hv_ts (i := 124) (by decide +kernel) (by decide +kernel)
theorem w88 : Cond.declares ⟨"java/lang/Exception", "<init>", "(Ljava/lang/String;)V"⟩ ∈ TS := hv_ts (i := 125) (by decide +kernel) (by decide +kernel)
theorem w89 : Cond.declares ⟨"java/lang/Throwable", "<init>", "()V"⟩ ∈ TS := hv_ts (i := 126) (by decide +kernel) (by decide +kernel)
theorem w90 : Cond.declares ⟨"java/lang/Throwable", "<init>", "(Ljava/lang/String;)V"⟩ ∈ TS := hv_ts (i := 127) (by decide +kernel) (by decide +kernel)
theorem w91 : Cond.selects "java/lang/IllegalArgumentException" ⟨"java/lang/Throwable", "fillInStackTrace", "(I)Ljava/lang/Throwable;"⟩ ⟨"java/lang/Throwable", "fillInStackTrace", "(I)Ljava/lang/Throwable;"⟩ ∈ TS := hv_ts (i := 128) (by decide +kernel) (by decide +kernel)
theorem w92 : Cond.selects "java/lang/IllegalArgumentException" ⟨"java/lang/Throwable", "fillInStackTrace", "()Ljava/lang/Throwable;"⟩ ⟨"java/lang/Throwable", "fillInStackTrace", "()Ljava/lang/Throwable;"⟩ ∈ TS := hv_ts (i := 129) (by decide +kernel) (by decide +kernel)
theorem w93 : Cond.lays "java/lang/IllegalArgumentException" "java/lang/Throwable" "cause" "Ljava/lang/Throwable;" ∈ TS := hv_ts (i := 130) (by decide +kernel) (by decide +kernel)
theorem w94 : Cond.lays "java/lang/Throwable" "java/lang/Throwable" "cause" "Ljava/lang/Throwable;" ∈ TS := hv_ts (i := 131) (by decide +kernel) (by decide +kernel)
theorem w95 : Cond.lays "java/lang/IllegalArgumentException" "java/lang/Throwable" "stackTrace" "[Ljava/lang/StackTraceElement;" ∈ TS := hv_ts (i := 132) (by decide +kernel) (by decide +kernel)
theorem w96 : Cond.lays "java/lang/Throwable" "java/lang/Throwable" "stackTrace" "[Ljava/lang/StackTraceElement;" ∈ TS := hv_ts (i := 133) (by decide +kernel) (by decide +kernel)
theorem w97 : Cond.lays "java/lang/IllegalArgumentException" "java/lang/Throwable" "suppressedExceptions" "Ljava/util/List;" ∈ TS := hv_ts (i := 134) (by decide +kernel) (by decide +kernel)
theorem w98 : Cond.lays "java/lang/Throwable" "java/lang/Throwable" "suppressedExceptions" "Ljava/util/List;" ∈ TS := hv_ts (i := 135) (by decide +kernel) (by decide +kernel)
theorem w99 : Cond.lays "java/lang/IllegalArgumentException" "java/lang/Throwable" "detailMessage" "Ljava/lang/String;" ∈ TS := hv_ts (i := 136) (by decide +kernel) (by decide +kernel)
theorem w100 : Cond.lays "java/lang/Throwable" "java/lang/Throwable" "detailMessage" "Ljava/lang/String;" ∈ TS := hv_ts (i := 137) (by decide +kernel) (by decide +kernel)
theorem w101 : Cond.lays "java/lang/IllegalArgumentException" "java/lang/Throwable" "backtrace" "Ljava/lang/Object;" ∈ TS := hv_ts (i := 138) (by decide +kernel) (by decide +kernel)
theorem w102 : Cond.lays "java/lang/Throwable" "java/lang/Throwable" "backtrace" "Ljava/lang/Object;" ∈ TS := hv_ts (i := 139) (by decide +kernel) (by decide +kernel)
theorem w103 : Cond.fieldLink "java/lang/Throwable" 198 "java/lang/Throwable" "backtrace" "Ljava/lang/Object;" ∈ TS := hv_ts (i := 140) (by decide +kernel) (by decide +kernel)
theorem w104 : Cond.superclass "java/lang/Throwable" "java/lang/Object" ∈ TS := hv_ts (i := 141) (by decide +kernel) (by decide +kernel)
theorem w105 : Cond.instanceMethod ⟨"java/lang/Throwable", "<init>", "()V"⟩ ∈ TS := hv_ts (i := 142) (by decide +kernel) (by decide +kernel)
theorem w106 : Cond.code ⟨"java/lang/Throwable", "<init>", "()V"⟩ prog_16_method_1_code 1 none ∈ TS := hv_ts (i := 143) (by decide +kernel) (by decide +kernel)
theorem w107 : Cond.methodLink "java/lang/Throwable" 1 ⟨"java/lang/Object", "<init>", "()V"⟩ ∈ TS := hv_ts (i := 144) (by decide +kernel) (by decide +kernel)
theorem w108 : Cond.fieldLink "java/lang/Throwable" 13 "java/lang/Throwable" "UNASSIGNED_STACK" "[Ljava/lang/StackTraceElement;" ∈ TS := hv_ts (i := 145) (by decide +kernel) (by decide +kernel)
theorem w110 : Cond.fieldLink "java/lang/Throwable" 20 "java/lang/Throwable" "SUPPRESSED_SENTINEL" "Ljava/util/List;" ∈ TS := hv_ts (i := 147) (by decide +kernel) (by decide +kernel)
theorem w112 : Cond.methodLink "java/lang/Throwable" 27 ⟨"java/lang/Throwable", "fillInStackTrace", "()Ljava/lang/Throwable;"⟩ ∈ TS := hv_ts (i := 149) (by decide +kernel) (by decide +kernel)
theorem w113 : Cond.instanceMethod ⟨"java/lang/Throwable", "fillInStackTrace", "()Ljava/lang/Throwable;"⟩ ∈ TS := hv_ts (i := 150) (by decide +kernel) (by decide +kernel)
theorem w114 : Cond.sameMethod "java/lang/Throwable" "java/lang/Throwable" "fillInStackTrace" "()Ljava/lang/Throwable;" ∈ TS := hv_ts (i := 151) (by decide +kernel) (by decide +kernel)
theorem w115 : Cond.selects "java/lang/IllegalStateException" ⟨"java/lang/Throwable", "fillInStackTrace", "()Ljava/lang/Throwable;"⟩ ⟨"java/lang/Throwable", "fillInStackTrace", "()Ljava/lang/Throwable;"⟩ ∈ TS := hv_ts (i := 152) (by decide +kernel) (by decide +kernel)
theorem w116 : Cond.selects "java/lang/IndexOutOfBoundsException" ⟨"java/lang/Throwable", "fillInStackTrace", "()Ljava/lang/Throwable;"⟩ ⟨"java/lang/Throwable", "fillInStackTrace", "()Ljava/lang/Throwable;"⟩ ∈ TS := hv_ts (i := 153) (by decide +kernel) (by decide +kernel)
theorem w117 : Cond.selects "java/lang/UnsupportedOperationException" ⟨"java/lang/Throwable", "fillInStackTrace", "()Ljava/lang/Throwable;"⟩ ⟨"java/lang/Throwable", "fillInStackTrace", "()Ljava/lang/Throwable;"⟩ ∈ TS := hv_ts (i := 154) (by decide +kernel) (by decide +kernel)
theorem w118 : Cond.codeSync ⟨"java/lang/Throwable", "fillInStackTrace", "()Ljava/lang/Throwable;"⟩ prog_16_method_18_code 1 (some (FieldType.object "java/lang/Throwable")) ∈ TS := hv_ts (i := 155) (by decide +kernel) (by decide +kernel)
theorem w119 : Cond.methodLink "java/lang/Throwable" 202 ⟨"java/lang/Throwable", "fillInStackTrace", "(I)Ljava/lang/Throwable;"⟩ ∈ TS := hv_ts (i := 156) (by decide +kernel) (by decide +kernel)
theorem w121 : Cond.instanceMethod ⟨"java/lang/Throwable", "fillInStackTrace", "(I)Ljava/lang/Throwable;"⟩ ∈ TS := hv_ts (i := 158) (by decide +kernel) (by decide +kernel)
theorem w122 : Cond.instantiable "java/lang/Throwable" 6 ∈ TS := hv_ts (i := 159) (by decide +kernel) (by decide +kernel)
theorem w123 : Cond.native ⟨"java/lang/Throwable", "fillInStackTrace", "(I)Ljava/lang/Throwable;"⟩ ∈ TS := hv_ts (i := 160) (by decide +kernel) (by decide +kernel)
theorem w125 : Cond.methodLink "BoxPacker" 40 ⟨"java/lang/IllegalArgumentException", "<init>", "(Ljava/lang/String;)V"⟩ ∈ TS := hv_ts (i := 162) (by decide +kernel) (by decide +kernel)
theorem w126 : Cond.instanceMethod ⟨"java/lang/IllegalArgumentException", "<init>", "(Ljava/lang/String;)V"⟩ ∈ TS := hv_ts (i := 163) (by decide +kernel) (by decide +kernel)
theorem w127 : Cond.code ⟨"java/lang/IllegalArgumentException", "<init>", "(Ljava/lang/String;)V"⟩ prog_10_method_2_code 2 none ∈ TS := hv_ts (i := 164) (by decide +kernel) (by decide +kernel)
theorem w128 : Cond.methodLink "java/lang/IllegalArgumentException" 7 ⟨"java/lang/RuntimeException", "<init>", "(Ljava/lang/String;)V"⟩ ∈ TS := hv_ts (i := 165) (by decide +kernel) (by decide +kernel)
theorem w129 : Cond.instanceMethod ⟨"java/lang/RuntimeException", "<init>", "(Ljava/lang/String;)V"⟩ ∈ TS := hv_ts (i := 166) (by decide +kernel) (by decide +kernel)
theorem w130 : Cond.code ⟨"java/lang/RuntimeException", "<init>", "(Ljava/lang/String;)V"⟩ prog_14_method_2_code 2 none ∈ TS := hv_ts (i := 167) (by decide +kernel) (by decide +kernel)
theorem w131 : Cond.methodLink "java/lang/RuntimeException" 7 ⟨"java/lang/Exception", "<init>", "(Ljava/lang/String;)V"⟩ ∈ TS := hv_ts (i := 168) (by decide +kernel) (by decide +kernel)
theorem w132 : Cond.instanceMethod ⟨"java/lang/Exception", "<init>", "(Ljava/lang/String;)V"⟩ ∈ TS := hv_ts (i := 169) (by decide +kernel) (by decide +kernel)
theorem w133 : Cond.code ⟨"java/lang/Exception", "<init>", "(Ljava/lang/String;)V"⟩ prog_9_method_2_code 2 none ∈ TS := hv_ts (i := 170) (by decide +kernel) (by decide +kernel)
theorem w134 : Cond.methodLink "java/lang/Exception" 7 ⟨"java/lang/Throwable", "<init>", "(Ljava/lang/String;)V"⟩ ∈ TS := hv_ts (i := 171) (by decide +kernel) (by decide +kernel)
theorem w135 : Cond.instanceMethod ⟨"java/lang/Throwable", "<init>", "(Ljava/lang/String;)V"⟩ ∈ TS := hv_ts (i := 172) (by decide +kernel) (by decide +kernel)
theorem w136 : Cond.code ⟨"java/lang/Throwable", "<init>", "(Ljava/lang/String;)V"⟩ prog_16_method_2_code 2 none ∈ TS := hv_ts (i := 173) (by decide +kernel) (by decide +kernel)
theorem w137 : Cond.fieldLink "java/lang/Throwable" 198 "java/lang/Throwable" "backtrace" "Ljava/lang/Object;" ∈ TS := hv_ts (i := 174) (by decide +kernel) (by decide +kernel)
theorem w138 : Cond.fieldLink "java/lang/Throwable" 31 "java/lang/Throwable" "detailMessage" "Ljava/lang/String;" ∈ TS := hv_ts (i := 175) (by decide +kernel) (by decide +kernel)
theorem w139 : Cond.fieldLink "java/lang/Throwable" 7 "java/lang/Throwable" "cause" "Ljava/lang/Throwable;" ∈ TS := hv_ts (i := 176) (by decide +kernel) (by decide +kernel)
theorem w140 : Cond.fieldLink "java/lang/Throwable" 17 "java/lang/Throwable" "stackTrace" "[Ljava/lang/StackTraceElement;" ∈ TS := hv_ts (i := 177) (by decide +kernel) (by decide +kernel)
theorem w141 : Cond.fieldLink "java/lang/Throwable" 24 "java/lang/Throwable" "suppressedExceptions" "Ljava/util/List;" ∈ TS := hv_ts (i := 178) (by decide +kernel) (by decide +kernel)
end
