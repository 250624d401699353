section
-- ===== PART A: goes FIRST, ahead of the names: the tables' words, and 'selects' of the private methods out of them =====
/-- a private method of a class that the tables say can be made, by its rows of tables_1 -/
def lw_okq (q : MethodName × Nat) : Prop := (q.1.cls ≠ "java/lang/invoke/MethodHandle" ∧ q.1.cls ≠ "java/lang/invoke/VarHandle") ∧ Cond.instantiable q.1.cls q.2 ∈ tables_1 ∧ Cond.privateMethod q.1 ∈ tables_1 ∧ Cond.instanceMethod q.1 ∈ tables_1
theorem lw_p0 : lw_okq (⟨"java/lang/Throwable", "fillInStackTrace", "(I)Ljava/lang/Throwable;"⟩, 6) := ⟨⟨by decide +kernel, by decide +kernel⟩, List.mem_of_getElem? (i := 417) (by decide +kernel), List.mem_of_getElem? (i := 415) (by decide +kernel), List.mem_of_getElem? (i := 416) (by decide +kernel)⟩
theorem lw_p1 : lw_okq (⟨"Festivalgrid$Act", "end", "()I"⟩, 9) := ⟨⟨by decide +kernel, by decide +kernel⟩, List.mem_of_getElem? (i := 74) (by decide +kernel), List.mem_of_getElem? (i := 529) (by decide +kernel), List.mem_of_getElem? (i := 530) (by decide +kernel)⟩
theorem lw_p2 : lw_okq (⟨"Festivalgrid", "areStagesFineAt", "(I)Z"⟩, 14) := ⟨⟨by decide +kernel, by decide +kernel⟩, List.mem_of_getElem? (i := 26) (by decide +kernel), List.mem_of_getElem? (i := 533) (by decide +kernel), List.mem_of_getElem? (i := 534) (by decide +kernel)⟩
theorem lw_p3 : lw_okq (⟨"Festivalgrid$Act", "playsAt", "(I)Z"⟩, 9) := ⟨⟨by decide +kernel, by decide +kernel⟩, List.mem_of_getElem? (i := 74) (by decide +kernel), List.mem_of_getElem? (i := 537) (by decide +kernel), List.mem_of_getElem? (i := 538) (by decide +kernel)⟩
theorem lw_p4 : lw_okq (⟨"Festivalgrid", "isStormyAt", "(II)Z"⟩, 14) := ⟨⟨by decide +kernel, by decide +kernel⟩, List.mem_of_getElem? (i := 26) (by decide +kernel), List.mem_of_getElem? (i := 541) (by decide +kernel), List.mem_of_getElem? (i := 542) (by decide +kernel)⟩
theorem lw_p5 : lw_okq (⟨"Festivalgrid", "isHeldByAnother", "(LFestivalgrid$Act;I)Z"⟩, 14) := ⟨⟨by decide +kernel, by decide +kernel⟩, List.mem_of_getElem? (i := 26) (by decide +kernel), List.mem_of_getElem? (i := 545) (by decide +kernel), List.mem_of_getElem? (i := 546) (by decide +kernel)⟩
theorem lw_p6 : lw_okq (⟨"Festivalgrid", "brokenAt", "(I)I"⟩, 14) := ⟨⟨by decide +kernel, by decide +kernel⟩, List.mem_of_getElem? (i := 26) (by decide +kernel), List.mem_of_getElem? (i := 549) (by decide +kernel), List.mem_of_getElem? (i := 550) (by decide +kernel)⟩
theorem lw_p7 : lw_okq (⟨"Festivalgrid", "lookAt", "(I)V"⟩, 14) := ⟨⟨by decide +kernel, by decide +kernel⟩, List.mem_of_getElem? (i := 26) (by decide +kernel), List.mem_of_getElem? (i := 553) (by decide +kernel), List.mem_of_getElem? (i := 554) (by decide +kernel)⟩
theorem lw_p8 : lw_okq (⟨"Festivalgrid", "addToLook", "(LFestivalgrid$Act;I)V"⟩, 14) := ⟨⟨by decide +kernel, by decide +kernel⟩, List.mem_of_getElem? (i := 26) (by decide +kernel), List.mem_of_getElem? (i := 557) (by decide +kernel), List.mem_of_getElem? (i := 558) (by decide +kernel)⟩
theorem lw_p9 : lw_okq (⟨"Festivalgrid", "setsAt", "(I)I"⟩, 14) := ⟨⟨by decide +kernel, by decide +kernel⟩, List.mem_of_getElem? (i := 26) (by decide +kernel), List.mem_of_getElem? (i := 568) (by decide +kernel), List.mem_of_getElem? (i := 569) (by decide +kernel)⟩
theorem lw_p10 : lw_okq (⟨"Festivalgrid", "isStageFine", "(I)Z"⟩, 14) := ⟨⟨by decide +kernel, by decide +kernel⟩, List.mem_of_getElem? (i := 26) (by decide +kernel), List.mem_of_getElem? (i := 642) (by decide +kernel), List.mem_of_getElem? (i := 643) (by decide +kernel)⟩
theorem lw_p11 : lw_okq (⟨"Festivalgrid", "fitsOnStage", "(LFestivalgrid$Act;)Z"⟩, 14) := ⟨⟨by decide +kernel, by decide +kernel⟩, List.mem_of_getElem? (i := 26) (by decide +kernel), List.mem_of_getElem? (i := 646) (by decide +kernel), List.mem_of_getElem? (i := 647) (by decide +kernel)⟩
theorem lw_p12 : lw_okq (⟨"Festivalgrid$Storm", "hits", "(LFestivalgrid$Act;)Z"⟩, 3) := ⟨⟨by decide +kernel, by decide +kernel⟩, List.mem_of_getElem? (i := 115) (by decide +kernel), List.mem_of_getElem? (i := 650) (by decide +kernel), List.mem_of_getElem? (i := 651) (by decide +kernel)⟩
theorem lw_p13 : lw_okq (⟨"Festivalgrid$Act", "isTooNear", "(LFestivalgrid$Act;I)Z"⟩, 9) := ⟨⟨by decide +kernel, by decide +kernel⟩, List.mem_of_getElem? (i := 74) (by decide +kernel), List.mem_of_getElem? (i := 655) (by decide +kernel), List.mem_of_getElem? (i := 656) (by decide +kernel)⟩
theorem lw_p14 : lw_okq (⟨"Festivalgrid", "brokenWithin", "(II)I"⟩, 14) := ⟨⟨by decide +kernel, by decide +kernel⟩, List.mem_of_getElem? (i := 26) (by decide +kernel), List.mem_of_getElem? (i := 671) (by decide +kernel), List.mem_of_getElem? (i := 672) (by decide +kernel)⟩
theorem lw_p15 : lw_okq (⟨"Festivalgrid", "tryAct", "(IIIIIII)LFestivalgrid$Act;"⟩, 14) := ⟨⟨by decide +kernel, by decide +kernel⟩, List.mem_of_getElem? (i := 26) (by decide +kernel), List.mem_of_getElem? (i := 691) (by decide +kernel), List.mem_of_getElem? (i := 692) (by decide +kernel)⟩
def lw_privs_1 : List (MethodName × Nat) := [(⟨"java/lang/Throwable", "fillInStackTrace", "(I)Ljava/lang/Throwable;"⟩, 6), (⟨"Festivalgrid$Act", "end", "()I"⟩, 9), (⟨"Festivalgrid", "areStagesFineAt", "(I)Z"⟩, 14), (⟨"Festivalgrid$Act", "playsAt", "(I)Z"⟩, 9), (⟨"Festivalgrid", "isStormyAt", "(II)Z"⟩, 14), (⟨"Festivalgrid", "isHeldByAnother", "(LFestivalgrid$Act;I)Z"⟩, 14), (⟨"Festivalgrid", "brokenAt", "(I)I"⟩, 14), (⟨"Festivalgrid", "lookAt", "(I)V"⟩, 14), (⟨"Festivalgrid", "addToLook", "(LFestivalgrid$Act;I)V"⟩, 14), (⟨"Festivalgrid", "setsAt", "(I)I"⟩, 14), (⟨"Festivalgrid", "isStageFine", "(I)Z"⟩, 14), (⟨"Festivalgrid", "fitsOnStage", "(LFestivalgrid$Act;)Z"⟩, 14), (⟨"Festivalgrid$Storm", "hits", "(LFestivalgrid$Act;)Z"⟩, 3), (⟨"Festivalgrid$Act", "isTooNear", "(LFestivalgrid$Act;I)Z"⟩, 9), (⟨"Festivalgrid", "brokenWithin", "(II)I"⟩, 14), (⟨"Festivalgrid", "tryAct", "(IIIIIII)LFestivalgrid$Act;"⟩, 14)]
theorem lw_r1 : ∀ q ∈ lw_privs_1, lw_okq q := List.forall_mem_cons.mpr ⟨lw_p0, List.forall_mem_cons.mpr ⟨lw_p1, List.forall_mem_cons.mpr ⟨lw_p2, List.forall_mem_cons.mpr ⟨lw_p3, List.forall_mem_cons.mpr ⟨lw_p4, List.forall_mem_cons.mpr ⟨lw_p5, List.forall_mem_cons.mpr ⟨lw_p6, List.forall_mem_cons.mpr ⟨lw_p7, List.forall_mem_cons.mpr ⟨lw_p8, List.forall_mem_cons.mpr ⟨lw_p9, List.forall_mem_cons.mpr ⟨lw_p10, List.forall_mem_cons.mpr ⟨lw_p11, List.forall_mem_cons.mpr ⟨lw_p12, List.forall_mem_cons.mpr ⟨lw_p13, List.forall_mem_cons.mpr ⟨lw_p14, List.forall_mem_cons.mpr ⟨lw_p15, fun _ h => absurd h List.not_mem_nil⟩⟩⟩⟩⟩⟩⟩⟩⟩⟩⟩⟩⟩⟩⟩⟩
theorem lw_p16 : lw_okq (⟨"Festivalgrid", "brokenBy", "(LFestivalgrid$Act;)I"⟩, 14) := ⟨⟨by decide +kernel, by decide +kernel⟩, List.mem_of_getElem? (i := 26) (by decide +kernel), List.mem_of_getElem? (i := 700) (by decide +kernel), List.mem_of_getElem? (i := 701) (by decide +kernel)⟩
theorem lw_p17 : lw_okq (⟨"Festivalgrid", "requireAct", "(I)V"⟩, 14) := ⟨⟨by decide +kernel, by decide +kernel⟩, List.mem_of_getElem? (i := 26) (by decide +kernel), List.mem_of_getElem? (i := 718) (by decide +kernel), List.mem_of_getElem? (i := 719) (by decide +kernel)⟩
theorem lw_p18 : lw_okq (⟨"Festivalgrid", "requirePlanned", "(I)V"⟩, 14) := ⟨⟨by decide +kernel, by decide +kernel⟩, List.mem_of_getElem? (i := 26) (by decide +kernel), List.mem_of_getElem? (i := 723) (by decide +kernel), List.mem_of_getElem? (i := 724) (by decide +kernel)⟩
theorem lw_p19 : lw_okq (⟨"Festivalgrid", "firstFineStart", "(LFestivalgrid$Act;I)I"⟩, 14) := ⟨⟨by decide +kernel, by decide +kernel⟩, List.mem_of_getElem? (i := 26) (by decide +kernel), List.mem_of_getElem? (i := 749) (by decide +kernel), List.mem_of_getElem? (i := 750) (by decide +kernel)⟩
theorem lw_p20 : lw_okq (⟨"Festivalgrid", "typedWish", "()LFestivalgrid$Wish;"⟩, 14) := ⟨⟨by decide +kernel, by decide +kernel⟩, List.mem_of_getElem? (i := 26) (by decide +kernel), List.mem_of_getElem? (i := 790) (by decide +kernel), List.mem_of_getElem? (i := 791) (by decide +kernel)⟩
theorem lw_p21 : lw_okq (⟨"Festivalgrid$Act", "take", "(LFestivalgrid$Wish;)V"⟩, 9) := ⟨⟨by decide +kernel, by decide +kernel⟩, List.mem_of_getElem? (i := 74) (by decide +kernel), List.mem_of_getElem? (i := 806) (by decide +kernel), List.mem_of_getElem? (i := 807) (by decide +kernel)⟩
theorem lw_p22 : lw_okq (⟨"Festivalgrid", "callOff", "(LFestivalgrid$Storm;)V"⟩, 14) := ⟨⟨by decide +kernel, by decide +kernel⟩, List.mem_of_getElem? (i := 26) (by decide +kernel), List.mem_of_getElem? (i := 831) (by decide +kernel), List.mem_of_getElem? (i := 832) (by decide +kernel)⟩
theorem lw_p23 : lw_okq (⟨"Festivalgrid", "replan", "(I)I"⟩, 14) := ⟨⟨by decide +kernel, by decide +kernel⟩, List.mem_of_getElem? (i := 26) (by decide +kernel), List.mem_of_getElem? (i := 835) (by decide +kernel), List.mem_of_getElem? (i := 836) (by decide +kernel)⟩
theorem lw_p24 : lw_okq (⟨"Festivalgrid", "earliestWaiting", "()LFestivalgrid$Act;"⟩, 14) := ⟨⟨by decide +kernel, by decide +kernel⟩, List.mem_of_getElem? (i := 26) (by decide +kernel), List.mem_of_getElem? (i := 839) (by decide +kernel), List.mem_of_getElem? (i := 840) (by decide +kernel)⟩
theorem lw_p25 : lw_okq (⟨"FestivalgridModel", "wrong", "()I"⟩, 22) := ⟨⟨by decide +kernel, by decide +kernel⟩, List.mem_of_getElem? (i := 864) (by decide +kernel), List.mem_of_getElem? (i := 959) (by decide +kernel), List.mem_of_getElem? (i := 960) (by decide +kernel)⟩
theorem lw_p26 : lw_okq (⟨"FestivalgridModel", "isPlaced", "()Z"⟩, 22) := ⟨⟨by decide +kernel, by decide +kernel⟩, List.mem_of_getElem? (i := 864) (by decide +kernel), List.mem_of_getElem? (i := 963) (by decide +kernel), List.mem_of_getElem? (i := 964) (by decide +kernel)⟩
theorem lw_p27 : lw_okq (⟨"FestivalgridModel", "isFed", "(I)Z"⟩, 22) := ⟨⟨by decide +kernel, by decide +kernel⟩, List.mem_of_getElem? (i := 864) (by decide +kernel), List.mem_of_getElem? (i := 967) (by decide +kernel), List.mem_of_getElem? (i := 968) (by decide +kernel)⟩
theorem lw_p28 : lw_okq (⟨"FestivalgridModel", "loaded", "(II)I"⟩, 22) := ⟨⟨by decide +kernel, by decide +kernel⟩, List.mem_of_getElem? (i := 864) (by decide +kernel), List.mem_of_getElem? (i := 971) (by decide +kernel), List.mem_of_getElem? (i := 972) (by decide +kernel)⟩
theorem lw_p29 : lw_okq (⟨"FestivalgridModel", "plays", "(II)Z"⟩, 22) := ⟨⟨by decide +kernel, by decide +kernel⟩, List.mem_of_getElem? (i := 864) (by decide +kernel), List.mem_of_getElem? (i := 975) (by decide +kernel), List.mem_of_getElem? (i := 976) (by decide +kernel)⟩
theorem lw_p30 : lw_okq (⟨"FestivalgridModel", "isClear", "(I)Z"⟩, 22) := ⟨⟨by decide +kernel, by decide +kernel⟩, List.mem_of_getElem? (i := 864) (by decide +kernel), List.mem_of_getElem? (i := 979) (by decide +kernel), List.mem_of_getElem? (i := 980) (by decide +kernel)⟩
theorem lw_p31 : lw_okq (⟨"FestivalgridModel", "speaks", "(II)Z"⟩, 22) := ⟨⟨by decide +kernel, by decide +kernel⟩, List.mem_of_getElem? (i := 864) (by decide +kernel), List.mem_of_getElem? (i := 983) (by decide +kernel), List.mem_of_getElem? (i := 984) (by decide +kernel)⟩
def lw_privs_2 : List (MethodName × Nat) := [(⟨"Festivalgrid", "brokenBy", "(LFestivalgrid$Act;)I"⟩, 14), (⟨"Festivalgrid", "requireAct", "(I)V"⟩, 14), (⟨"Festivalgrid", "requirePlanned", "(I)V"⟩, 14), (⟨"Festivalgrid", "firstFineStart", "(LFestivalgrid$Act;I)I"⟩, 14), (⟨"Festivalgrid", "typedWish", "()LFestivalgrid$Wish;"⟩, 14), (⟨"Festivalgrid$Act", "take", "(LFestivalgrid$Wish;)V"⟩, 9), (⟨"Festivalgrid", "callOff", "(LFestivalgrid$Storm;)V"⟩, 14), (⟨"Festivalgrid", "replan", "(I)I"⟩, 14), (⟨"Festivalgrid", "earliestWaiting", "()LFestivalgrid$Act;"⟩, 14), (⟨"FestivalgridModel", "wrong", "()I"⟩, 22), (⟨"FestivalgridModel", "isPlaced", "()Z"⟩, 22), (⟨"FestivalgridModel", "isFed", "(I)Z"⟩, 22), (⟨"FestivalgridModel", "loaded", "(II)I"⟩, 22), (⟨"FestivalgridModel", "plays", "(II)Z"⟩, 22), (⟨"FestivalgridModel", "isClear", "(I)Z"⟩, 22), (⟨"FestivalgridModel", "speaks", "(II)Z"⟩, 22)]
theorem lw_r2 : ∀ q ∈ lw_privs_2, lw_okq q := List.forall_mem_cons.mpr ⟨lw_p16, List.forall_mem_cons.mpr ⟨lw_p17, List.forall_mem_cons.mpr ⟨lw_p18, List.forall_mem_cons.mpr ⟨lw_p19, List.forall_mem_cons.mpr ⟨lw_p20, List.forall_mem_cons.mpr ⟨lw_p21, List.forall_mem_cons.mpr ⟨lw_p22, List.forall_mem_cons.mpr ⟨lw_p23, List.forall_mem_cons.mpr ⟨lw_p24, List.forall_mem_cons.mpr ⟨lw_p25, List.forall_mem_cons.mpr ⟨lw_p26, List.forall_mem_cons.mpr ⟨lw_p27, List.forall_mem_cons.mpr ⟨lw_p28, List.forall_mem_cons.mpr ⟨lw_p29, List.forall_mem_cons.mpr ⟨lw_p30, List.forall_mem_cons.mpr ⟨lw_p31, fun _ h => absurd h List.not_mem_nil⟩⟩⟩⟩⟩⟩⟩⟩⟩⟩⟩⟩⟩⟩⟩⟩
theorem lw_p32 : lw_okq (⟨"FestivalgridModel", "isQuiet", "(I)Z"⟩, 22) := ⟨⟨by decide +kernel, by decide +kernel⟩, List.mem_of_getElem? (i := 864) (by decide +kernel), List.mem_of_getElem? (i := 987) (by decide +kernel), List.mem_of_getElem? (i := 988) (by decide +kernel)⟩
theorem lw_p33 : lw_okq (⟨"FestivalgridModel", "noisy", "(II)I"⟩, 22) := ⟨⟨by decide +kernel, by decide +kernel⟩, List.mem_of_getElem? (i := 864) (by decide +kernel), List.mem_of_getElem? (i := 991) (by decide +kernel), List.mem_of_getElem? (i := 992) (by decide +kernel)⟩
theorem lw_p34 : lw_okq (⟨"FestivalgridModel", "lays", "(IIIIIII)I"⟩, 22) := ⟨⟨by decide +kernel, by decide +kernel⟩, List.mem_of_getElem? (i := 864) (by decide +kernel), List.mem_of_getElem? (i := 1007) (by decide +kernel), List.mem_of_getElem? (i := 1008) (by decide +kernel)⟩
theorem lw_p35 : lw_okq (⟨"FestivalgridModel", "isAct", "(I)Z"⟩, 22) := ⟨⟨by decide +kernel, by decide +kernel⟩, List.mem_of_getElem? (i := 864) (by decide +kernel), List.mem_of_getElem? (i := 1019) (by decide +kernel), List.mem_of_getElem? (i := 1020) (by decide +kernel)⟩
theorem lw_p36 : lw_okq (⟨"FestivalgridModel", "finds", "(II)I"⟩, 22) := ⟨⟨by decide +kernel, by decide +kernel⟩, List.mem_of_getElem? (i := 864) (by decide +kernel), List.mem_of_getElem? (i := 1035) (by decide +kernel), List.mem_of_getElem? (i := 1036) (by decide +kernel)⟩
theorem lw_p37 : lw_okq (⟨"FestivalgridModel", "wish", "()I"⟩, 22) := ⟨⟨by decide +kernel, by decide +kernel⟩, List.mem_of_getElem? (i := 864) (by decide +kernel), List.mem_of_getElem? (i := 1051) (by decide +kernel), List.mem_of_getElem? (i := 1052) (by decide +kernel)⟩
theorem lw_p38 : lw_okq (⟨"FestivalgridModel", "next", "(II)I"⟩, 22) := ⟨⟨by decide +kernel, by decide +kernel⟩, List.mem_of_getElem? (i := 864) (by decide +kernel), List.mem_of_getElem? (i := 1069) (by decide +kernel), List.mem_of_getElem? (i := 1070) (by decide +kernel)⟩
def lw_privs_3 : List (MethodName × Nat) := [(⟨"FestivalgridModel", "isQuiet", "(I)Z"⟩, 22), (⟨"FestivalgridModel", "noisy", "(II)I"⟩, 22), (⟨"FestivalgridModel", "lays", "(IIIIIII)I"⟩, 22), (⟨"FestivalgridModel", "isAct", "(I)Z"⟩, 22), (⟨"FestivalgridModel", "finds", "(II)I"⟩, 22), (⟨"FestivalgridModel", "wish", "()I"⟩, 22), (⟨"FestivalgridModel", "next", "(II)I"⟩, 22)]
theorem lw_r3 : ∀ q ∈ lw_privs_3, lw_okq q := List.forall_mem_cons.mpr ⟨lw_p32, List.forall_mem_cons.mpr ⟨lw_p33, List.forall_mem_cons.mpr ⟨lw_p34, List.forall_mem_cons.mpr ⟨lw_p35, List.forall_mem_cons.mpr ⟨lw_p36, List.forall_mem_cons.mpr ⟨lw_p37, List.forall_mem_cons.mpr ⟨lw_p38, fun _ h => absurd h List.not_mem_nil⟩⟩⟩⟩⟩⟩⟩
def lw_privs : List (MethodName × Nat) := lw_privs_1 ++ (lw_privs_2 ++ (lw_privs_3))
def lw_tbl : List Cond := k2_sels lw_privs ++ tables_1
theorem lw_privs_ok : ∀ q ∈ lw_privs, lw_okq q := by
  show ∀ q ∈ lw_privs_1 ++ (lw_privs_2 ++ (lw_privs_3)), lw_okq q
  exact List.forall_mem_append.mpr ⟨lw_r1, List.forall_mem_append.mpr ⟨lw_r2, lw_r3⟩⟩
/-! ===== BEGIN words of one list among another's, by their places ===== -/
theorem goodIn_r {big : List Cond} (ws : List Cond) (ps : List Nat) (hp : ws = ps.filterMap (fun i => big[i]?)) (h : ws.all goodWord = true) : GoodIn big ws := by
  intro w hw
  have h1 := List.all_eq_true.mp h w hw
  rw [hp] at hw
  obtain ⟨i, -, hi⟩ := List.mem_filterMap.mp hw
  have hm : w ∈ big := by first | exact List.mem_of_getElem? hi | exact List.getElem?_mem hi
  exact ⟨hm, good_of_word h1⟩
theorem goodIn_app {big a b : List Cond} (ha : GoodIn big a) (hb : GoodIn big b) : GoodIn big (a ++ b) := fun w h => (List.mem_append.mp h).elim (ha w) (hb w)
theorem goodIn_ca {big a b : List Cond} {c : Cond} (ha : GoodIn big (c :: a)) (hb : GoodIn big b) : GoodIn big (c :: (a ++ b)) := fun w h => (List.mem_cons.mp h).elim (fun e => ha w (List.mem_cons.mpr (Or.inl e))) (fun h => (List.mem_append.mp h).elim (fun h => ha w (List.mem_cons.mpr (Or.inr h))) (hb w))
theorem goodIn_sub {big ws : List Cond} (hm : ∀ w ∈ ws, w ∈ big) (h : ws.all goodWord = true) : GoodIn big ws := fun w hw => ⟨hm w hw, good_of_word (List.all_eq_true.mp h w hw)⟩
/-! ===== END ===== -/

/-! ===== BEGIN exceptions that leave a method, and their catching by the caller (launches without stack traces) ===== -/
section VXA
/-! The laws vx_back, vx_callV, vx_callS, vx_callSW, vx_throw0, vx_throwS follow proofs of the library, with one case more: JvmDerived/Free/Laws.lean (Back.of_free), Shelf42/LK1.lean (callV, callS), Shelf/KitTraced.lean (throwNew0V, throwNewS). -/
/-- where a method has thrown q: the class by its name, the cell, what was written, the world -/
def vx_T (XC : String → State → State → Prop) (st : State) (q : Addr) (t : State) (mc ms : Nat) (free : Addr → Prop) : Prop :=
  ∃ (E : String) (ce : Cell) (L : List Loc), XC E st t ∧ t.heap[q]? = some ce ∧ ce.vm = .none ∧ st.vm.findClass E = some ce.cls ∧ st.WarmedH t.vm ∧ st.sameButNew ({ t with vm := st.vm } : State) L mc ms ∧ ∀ z ∈ L, free z.base
def vx_Q (Qc : Array Value → State → Outcome → State → Prop) (XC : String → State → State → Prop) (mc ms : Nat) (free : Addr → Prop) : Array Value → State → Outcome → State → Prop := fun a st o t =>
  (Qc a st o t ∧ ∃ L, FrameEnd st o t L mc ms ∧ ∀ q ∈ L, free q.base) ∨ ∃ q, o = .threw q ∧ vx_T XC st q t mc ms free
/-- a callee that returns or throws -/
def vx_Met (l : Launch) (y : MethodName) (ws : List Cond) (rm : Room) (Pc : Array Value → State → Prop) (Qc : Array Value → State → Outcome → State → Prop) (XC : String → State → State → Prop) (mc ms : Nat) (free : Addr → Prop) : Prop :=
  MetFree l y (headSpec ws rm) Pc (fun _ _ _ _ _ => True) (vx_Q Qc XC mc ms free)
def vx_Post (XC : String → State → State → Prop) (mc ms : Nat) (free : Addr → Prop) : Pt → Array Value → Addr → Pt → Prop := fun A a q B =>
  ∃ (g : JFrame) (mk : MethodId) (t : State) (L : List Loc) (E : String) (ce : Cell), B.U.heap = t.heap ∧ B.U.vm = t.vm ∧ XC E (A.U.calling g mk a) t ∧ t.heap[q]? = some ce ∧ ce.vm = .none ∧ A.U.vm.findClass E = some ce.cls ∧ B.locs = A.locs ++ L ∧ (∀ z ∈ L, free z.base) ∧ B.cells = A.cells + mc ∧ B.slots = A.slots + ms
def vx_Back (l : Launch) (R : Room) (p : Program) (e : Env) (below : List Frame) (s : State) (sargs : Array Value) (y : MethodName) (len W9 : Nat)
    (Pre : Pt → Array Value → Prop) (Post : Pt → Array Value → Option Value → Pt → Prop) (PostX : Pt → Array Value → Addr → Pt → Prop) : Prop :=
  ∀ (m : MethodId) (meth : Method) (c : Code) (A : Pt) (g : JFrame) (ig : Instr) (mk : MethodId) (a : Array Value),
    Stand p l e R s m sargs below meth c A.U A.locs A.cells A.slots → g.method = m → g.locals.size = c.maxLocals → decode c.code g.pc = .ok (ig, len) →
    2 * g.monitorRoom + (g.stack.map fun v => v.category).sum ≤ W9 → A.U.methodNamed? y = some mk → Pre A a →
    (∃ (v : Option Value) (B : Pt), Stand p l e R s m sargs below meth c B.U B.locs B.cells B.slots ∧ Post A a v B ∧
      Steps p.tables e below (doInvoke e (A.U.setTop g) [] mk a).1 (B.U.setTop { g with pc := g.pc + len, stack := v.toList ++ g.stack })) ∨
    (∃ (q : Addr) (B : Pt), Stand p l e R s m sargs below meth c B.U B.locs B.cells B.slots ∧ PostX A a q B ∧
      Steps p.tables e below (doInvoke e (A.U.setTop g) [] mk a).1 ((B.U.setTop g).pushFrame (.throwing q)))
section Payer
variable {l : Launch} {R : Room} {p : Program} {e : Env} {below : List Frame} {s : State} {sargs : Array Value} {y : MethodName} {len W9 : Nat}
theorem vx_back {ws : List Cond} {rm : Room} {Pc : Array Value → State → Prop} {Qc : Array Value → State → Outcome → State → Prop} {XC : String → State → State → Prop} {mc ms : Nat} {free : Addr → Prop} {bytes : ByteArray} {maxL : Nat} {ret : Option FieldType}
    (hM : vx_Met l y ws rm Pc Qc XC mc ms free) (hblind : FrameBlind Pc) (hrc : rm.cells = mc) (hrs : rm.slots = ms)
    (hframes : rm.frames + 1 ≤ R.frames) (hlocals : W9 + (maxL + 11) + rm.locals ≤ R.locals)
    (hws : ∀ w ∈ ws, ∀ a' U, s.WarmedH U.vm → w.before a' U = true) (hcode : Cond.code y bytes maxL ret ∈ ws) (hinit : ∀ a' U, s.WarmedH U.vm → (Cond.initialized y.cls).before a' U = true) :
    vx_Back l R p e below s sargs y len W9 (PreOf R mc ms Pc) (PostOf Qc mc ms free) (vx_Post XC mc ms free) := by
  intro m meth c A g ig mk a X hg hsize hdg hW hn hp
  have h1 : (headSpec ws rm).pre.before a A.U = true := atoms_intro fun w hw => hws w hw _ _ X.warmed
  have h2 : (Cond.code y bytes maxL ret).before a A.U = true := hws _ hcode _ _ X.warmed
  have h3 : (Cond.initialized y.cls).before a A.U = true := hinit _ _ X.warmed
  have h4 : A.cells + (headSpec ws rm).room.cells ≤ R.cells := by rw [show (headSpec ws rm).room.cells = mc from hrc]; exact hp.1
  have h5 : A.slots + (headSpec ws rm).room.slots ≤ R.slots := by rw [show (headSpec ws rm).room.slots = ms from hrs]; exact hp.2.1
  have hPc : Pc a (A.U.calling g mk a) := hblind _ _ _ _ hp.2.2
  obtain ⟨U, Ls, c0, s0⟩ := A
  dsimp only [Pt.U, Pt.locs, Pt.cells, Pt.slots] at h1 h2 h3 h4 h5 X hn hPc ⊢
  obtain ⟨methY, cY, hmY, hcY, -, hlY, -, -, -, -⟩ := Cond.code_spec hn h2
  obtain ⟨kY, hkY, -⟩ := className_of_methodNamed hn
  have hinitY : kY.init = .initialized := Cond.initialized_spec (findClass_of_methodNamed hn) hkY h3
  have h : At U g.method c below := by rw [hg]; exact X.here
  have hlocals9 : W9 + (maxL + 11) + (headSpec ws rm).room.locals ≤ R.locals := hlocals
  have happ : (headSpec ws rm).appliesLoose y e.platform (U.calling g mk a) = true :=
    Spec.appliesLoose_calling (g := g) h hdg hn hkY hinitY
      (X.room_calling (g := g) (R' := (headSpec ws rm).room) hsize hmY hcY hframes (by rw [hlY]; omega) h4 h5) h1
  obtain ⟨mid, hmid⟩ := h.above
  have hfr : (U.setTop g).frames = (.java g :: mid) ++ below := by rw [State.frames_setTop' g h.top, hmid]; rfl
  obtain ⟨o, s₂, hsteps, -, hend, hq⟩ := Steps.callFree hM p X.admits X.cas X.clock (acts := []) hfr happ hPc trivial
  have hq' : vx_Q Qc XC mc ms free a (U.calling g mk a) o s₂ := hq
  rw [State.frames_setTop' g h.top] at hend
  obtain ⟨g₀, hg0⟩ := Option.isSome_iff_exists.mp h.top
  obtain ⟨r, hr⟩ := State.topJava?_eq_some.mp hg0
  have hr' : (({ U with heap := s₂.heap, slotsUsed := s₂.slotsUsed } : State).setVm s₂.vm).frames = .java g₀ :: r := hr
  rcases hq' with ⟨hqc, L, hfe, hL⟩ | ⟨q, rfl, E, ce, L, hx, hce, hcv, hcl, hW₂, hsm, hL⟩
  · obtain ⟨⟨v, rfl⟩, hW₂, e2, q2, q3, q4, q5, q6⟩ := id hfe
    have e3 : s₂ = ({ (U.calling g mk a).setFrames s₂.frames with heap := s₂.heap, slotsUsed := s₂.slotsUsed } : State).setVm s₂.vm := by
      have : s₂ = ({ s₂ with vm := (U.calling g mk a).vm } : State).setVm s₂.vm := rfl
      rw [e2] at this
      exact this
    obtain ⟨c₂, i₂, len₂, hc₂, hd₂, hf₂⟩ := hend
    have hW' : U.WarmedH s₂.vm := hW₂
    have hcc : c₂ = c := by
      have h1 : s₂.code? g.method = U.code? g.method := by
        rw [State.code?_eq, State.code?_eq, hW'.alike.method?]
      exact Option.some.inj (hc₂.symm.trans (h1.trans h.code))
    subst hcc
    have hlen : len₂ = len := by rw [hdg] at hd₂; cases hd₂; rfl
    subst hlen
    have hs₂ : s₂ = (({ U with heap := s₂.heap, slotsUsed := s₂.slotsUsed } : State).setVm s₂.vm).setTop { g with pc := g.pc + len₂, stack := v.toList ++ g.stack } := by
      refine e3.trans ?_
      rw [hf₂, State.calling_eq h.top, State.setFrames_setFrames, State.setTop_of_frames _ hr', hr]
      rfl
    have hsame : U.sameButNew ({ U with heap := s₂.heap, slotsUsed := s₂.slotsUsed } : State) L mc ms := by
      refine ⟨?_, q2, q3, q4, q5, q6⟩
      obtain ⟨t, ht, -⟩ := State.frames_cons hr
      show ({ U with heap := s₂.heap, slotsUsed := s₂.slotsUsed } : State) = { U.setFrames U.frames with heap := s₂.heap, slotsUsed := s₂.slotsUsed }
      rw [State.setFrames_self ht]
    subst hg
    refine Or.inl ⟨v, ⟨(({ U with heap := s₂.heap, slotsUsed := s₂.slotsUsed } : State).setVm s₂.vm), Ls ++ L, c0 + mc, s0 + ms⟩,
      ⟨X.admits, X.cas, X.clock, X.frames, X.room, X.hears, X.method, X.code, (X.here.setHeapUsed s₂.heap s₂.slotsUsed).setVm hW'.alike, X.tail, State.WarmedH.trans X.warmed hW', X.limits, X.bytes, X.same.trans (hsame.setVm s.vm)⟩,
      ⟨g, mk, s₂, L, rfl, rfl, hqc, rfl, hL, rfl, rfl⟩, ?_⟩
    show Steps p.tables e below _ ((({ U with heap := s₂.heap, slotsUsed := s₂.slotsUsed } : State).setVm s₂.vm).setTop { g with pc := g.pc + len₂, stack := v.toList ++ g.stack })
    rw [← hs₂]
    exact hsteps
  · obtain ⟨e2, q2, q3, q4, q5, q6⟩ := id hsm
    have e3 : s₂ = ({ (U.calling g mk a).setFrames s₂.frames with heap := s₂.heap, slotsUsed := s₂.slotsUsed } : State).setVm s₂.vm := by
      have : s₂ = ({ s₂ with vm := (U.calling g mk a).vm } : State).setVm s₂.vm := rfl
      rw [e2] at this
      exact this
    have hf₂ : s₂.frames = .throwing q :: .java g :: U.frames.tail := hend
    have hW' : U.WarmedH s₂.vm := hW₂
    have hs₂ : s₂ = ((({ U with heap := s₂.heap, slotsUsed := s₂.slotsUsed } : State).setVm s₂.vm).setTop g).pushFrame (.throwing q) := by
      refine e3.trans ?_
      rw [hf₂, State.calling_eq h.top, State.setFrames_setFrames, State.pushFrame, State.frames_setTop _ hr', State.setTop_of_frames _ hr', State.setFrames_setFrames, hr]
      rfl
    have hsame : U.sameButNew ({ U with heap := s₂.heap, slotsUsed := s₂.slotsUsed } : State) L mc ms := by
      refine ⟨?_, q2, q3, q4, q5, q6⟩
      obtain ⟨t, ht, -⟩ := State.frames_cons hr
      show ({ U with heap := s₂.heap, slotsUsed := s₂.slotsUsed } : State) = { U.setFrames U.frames with heap := s₂.heap, slotsUsed := s₂.slotsUsed }
      rw [State.setFrames_self ht]
    subst hg
    refine Or.inr ⟨q, ⟨(({ U with heap := s₂.heap, slotsUsed := s₂.slotsUsed } : State).setVm s₂.vm), Ls ++ L, c0 + mc, s0 + ms⟩,
      ⟨X.admits, X.cas, X.clock, X.frames, X.room, X.hears, X.method, X.code, (X.here.setHeapUsed s₂.heap s₂.slotsUsed).setVm hW'.alike, X.tail, State.WarmedH.trans X.warmed hW', X.limits, X.bytes, X.same.trans (hsame.setVm s.vm)⟩,
      ⟨g, mk, s₂, L, E, ce, rfl, rfl, hx, hce, hcv, hcl, rfl, hL, rfl, rfl⟩, ?_⟩
    show Steps p.tables e below _ (((({ U with heap := s₂.heap, slotsUsed := s₂.slotsUsed } : State).setVm s₂.vm).setTop g).pushFrame (.throwing q))
    rw [← hs₂]
    exact hsteps
end Payer
section Calls
variable {p : Program} {l : Launch} {e : Env} {R : Room} {s : State} {m : MethodId} {args : Array Value} {below : List Frame} {meth : Method} {c : Code} {T : State} {locs : List Loc} {cells slots : Nat}
theorem vx_callV (X : Stand p l e R s m args below meth c T locs cells slots) (hexec : p.tables.exec = Jvm.exec) {own C : String} {index : Nat} {y : MethodName} {bytes : ByteArray} {maxL : Nat} {ret : Option FieldType}
    (hown : s.vm.findClass own = some m.cls) (hlink : (Cond.methodLink own index y).before args s = true) (hinst : (Cond.instanceMethod y).before args s = true) (hsel : (Cond.selects C y y).before args s = true)
    (hcode : (Cond.code y bytes maxL ret).before args s = true) (hy : y.cls ≠ "java/lang/invoke/MethodHandle" ∧ y.cls ≠ "java/lang/invoke/VarHandle")
    {W9 : Nat} {Pre : Pt → Array Value → Prop} {Post : Pt → Array Value → Option Value → Pt → Prop} {PostX : Pt → Array Value → Addr → Pt → Prop} (hK : vx_Back l R p e below s args y 3 W9 Pre Post PostX)
    {b : Addr} {cellB : Cell} (hcell : T.heap[b]? = some cellB) (hobj : cellB.vm.isStatics = false) (hcls : s.vm.findClass C = some cellB.cls)
    {g : JFrame} (hg : g.method = m) (hsize : g.locals.size = c.maxLocals) {argsL rest : List Value} (hlen : ∀ sig, parseMethodDescriptor y.desc = some sig → argsL.length = sig.parameters.length)
    (hstack : g.stack = argsL.reverse ++ .ref b :: rest) (hW : 2 * g.monitorRoom + (rest.map fun v => v.category).sum ≤ W9) (hdg : decode c.code g.pc = .ok (.invokevirtual index, 3))
    (hpre : ∀ vm₁, s.WarmedH vm₁ → Pre ⟨T.setVm vm₁, locs, cells, slots⟩ (Value.ref b :: argsL).toArray) :
    (∃ (v : Option Value) (vm₁ : Vm) (B : Pt), s.WarmedH vm₁ ∧ Stand p l e R s m args below meth c B.U B.locs B.cells B.slots ∧ Post ⟨T.setVm vm₁, locs, cells, slots⟩ (Value.ref b :: argsL).toArray v B ∧
      ∀ target, Steps p.tables e below (B.U.setTop { g with pc := g.pc + 3, stack := v.toList ++ rest }) target → Steps p.tables e below (T.setTop g) target) ∨
    (∃ (q : Addr) (vm₁ : Vm) (B : Pt), s.WarmedH vm₁ ∧ Stand p l e R s m args below meth c B.U B.locs B.cells B.slots ∧ PostX ⟨T.setVm vm₁, locs, cells, slots⟩ (Value.ref b :: argsL).toArray q B ∧
      Steps p.tables e below (T.setTop g) ((B.U.setTop { g with stack := rest }).pushFrame (.throwing q))) := by
  obtain ⟨mk, methM, hnamed, hmethM, hstM, habM⟩ := Cond.instanceMethod_spec hinst
  obtain ⟨methM', cM, hmethM', -, -, -, -, -, -, hsigM⟩ := Cond.code_spec hnamed hcode
  cases hmethM.symm.trans hmethM'
  obtain ⟨c2, r2, m2, q1, q2, q3, q4, kP, hkP, hkPi⟩ := Cond.selects_spec hsel
  cases hcls.symm.trans q1
  cases (State.methodFound?_of_named hnamed hy).symm.trans q2
  cases hnamed.symm.trans q3
  have hselP : selectMethod e.platform s.vm cellB.cls mk = .method mk := by rw [Launch.admits_selectMethod X.admits]; exact q4
  obtain ⟨vm₁, X₁, hstep₁⟩ := X.invokevirtual hexec hown hlink hnamed hmethM hstM hkP hkPi hy (a := b) (cell := cellB) hcell
    (fun z h => by rw [h] at hobj; cases hobj) hselP hmethM habM hkP hkPi (g := g) hg (argsL := argsL) (rest := rest) (hlen _ hsigM) hstack hdg
  rcases hK m meth c ⟨T.setVm vm₁, locs, cells, slots⟩ { g with stack := rest } (.invokevirtual index) mk (Value.ref b :: argsL).toArray X₁ hg hsize hdg hW (X₁.named hnamed) (hpre vm₁ X₁.warmed) with ⟨v, B, X', hpost, hsteps⟩ | ⟨q, B, X', hpost, hsteps⟩
  · exact Or.inl ⟨v, vm₁, B, X₁.warmed, X', hpost, fun target h => hstep₁ _ fun acts => by rw [doInvoke_state]; exact hsteps.trans h⟩
  · exact Or.inr ⟨q, vm₁, B, X₁.warmed, X', hpost, hstep₁ _ fun acts => by rw [doInvoke_state]; exact hsteps⟩
theorem vx_callS (X : Stand p l e R s m args below meth c T locs cells slots) (hexec : p.tables.exec = Jvm.exec) {own : String} {index : Nat} {y : MethodName} {bytes : ByteArray} {maxL : Nat} {ret : Option FieldType}
    (hown : s.vm.findClass own = some m.cls) (hlink : (Cond.methodLink own index y).before args s = true) (hstat : (Cond.static y).before args s = true) (hinit : (Cond.initialized y.cls).before args s = true)
    (hcode : (Cond.code y bytes maxL ret).before args s = true) (hy : y.cls ≠ "java/lang/invoke/MethodHandle" ∧ y.cls ≠ "java/lang/invoke/VarHandle")
    {W9 : Nat} {Pre : Pt → Array Value → Prop} {Post : Pt → Array Value → Option Value → Pt → Prop} {PostX : Pt → Array Value → Addr → Pt → Prop} (hK : vx_Back l R p e below s args y 3 W9 Pre Post PostX)
    {g : JFrame} (hg : g.method = m) (hsize : g.locals.size = c.maxLocals) {argsL rest : List Value} (hlen : ∀ sig, parseMethodDescriptor y.desc = some sig → argsL.length = sig.parameters.length)
    (hstack : g.stack = argsL.reverse ++ rest) (hW : 2 * g.monitorRoom + (rest.map fun v => v.category).sum ≤ W9) (hdg : decode c.code g.pc = .ok (.invokestatic index, 3))
    (hpre : ∀ vm₁, s.WarmedH vm₁ → Pre ⟨T.setVm vm₁, locs, cells, slots⟩ argsL.toArray) :
    (∃ (v : Option Value) (vm₁ : Vm) (B : Pt), s.WarmedH vm₁ ∧ Stand p l e R s m args below meth c B.U B.locs B.cells B.slots ∧ Post ⟨T.setVm vm₁, locs, cells, slots⟩ argsL.toArray v B ∧
      ∀ target, Steps p.tables e below (B.U.setTop { g with pc := g.pc + 3, stack := v.toList ++ rest }) target → Steps p.tables e below (T.setTop g) target) ∨
    (∃ (q : Addr) (vm₁ : Vm) (B : Pt), s.WarmedH vm₁ ∧ Stand p l e R s m args below meth c B.U B.locs B.cells B.slots ∧ PostX ⟨T.setVm vm₁, locs, cells, slots⟩ argsL.toArray q B ∧
      Steps p.tables e below (T.setTop g) ((B.U.setTop { g with stack := rest }).pushFrame (.throwing q))) := by
  obtain ⟨mk, hnamed⟩ := Cond.code_named hcode
  obtain ⟨methM, cM, hmethM, -, -, -, -, -, -, hsigM⟩ := Cond.code_spec hnamed hcode
  have hstatic : methM.isStatic = true := Cond.static_spec hnamed hmethM hstat
  obtain ⟨kP, hkP, -⟩ := className_of_methodNamed hnamed
  have hinitP : kP.init = .initialized := Cond.initialized_spec (findClass_of_methodNamed hnamed) hkP hinit
  obtain ⟨vm₁, X₁, hstep₁⟩ := X.invokestatic hexec hown hlink hnamed hmethM hstatic hkP hinitP hy (g := g) hg (argsL := argsL) (rest := rest) (hlen _ hsigM) hstack hdg
  rcases hK m meth c ⟨T.setVm vm₁, locs, cells, slots⟩ { g with stack := rest } (.invokestatic index) mk argsL.toArray X₁ hg hsize hdg hW (X₁.named hnamed) (hpre vm₁ X₁.warmed) with ⟨v, B, X', hpost, hsteps⟩ | ⟨q, B, X', hpost, hsteps⟩
  · exact Or.inl ⟨v, vm₁, B, X₁.warmed, X', hpost, fun target h => hstep₁ _ fun acts => by rw [doInvoke_state]; exact hsteps.trans h⟩
  · exact Or.inr ⟨q, vm₁, B, X₁.warmed, X', hpost, hstep₁ _ fun acts => by rw [doInvoke_state]; exact hsteps⟩
end Calls
theorem vx_cls {s : State} {T : State} {vm₁ : Vm} {E : String} {k : ClassId} (hW : s.WarmedH vm₁) (h : (T.setVm vm₁).vm.findClass E = some k) : s.vm.findClass E = some k := by
  have h1 : vm₁.findClass E = some k := h
  rw [hW.alike.findClass] at h1
  exact h1
/-- the method's frame g, with q thrown over it -/
def vx_W (p : Program) (l : Launch) (e : Env) (R : Room) (s : State) (m : MethodId) (args : Array Value) (below : List Frame) (meth : Method) (c : Code) (H : Heap) (locs : List Loc) (cells slots : Nat) (Q : State → Prop) (g : JFrame) (q : Addr) : Prop :=
  ∀ T : State, T.heap = H → Stand p l e R s m args below meth c T locs cells slots → ∃ t, Steps p.tables e below ((T.setTop g).pushFrame (.throwing q)) t ∧ Q t
def vx_Run (p : Program) (l : Launch) (e : Env) (R : Room) (s : State) (m : MethodId) (args : Array Value) (below : List Frame) (meth : Method) (c : Code) (H : Heap) (locs : List Loc) (cells slots mc ms : Nat) (g : JFrame) (rest : List Value) (Qa : State → Outcome → State → Prop) (XC : String → State → State → Prop) (free : Addr → Prop) : Prop :=
  ∀ T : State, T.heap = H → Stand p l e R s m args below meth c T locs cells slots →
    (∃ (v : Option Value) (st₀ t T' : State) (L : List Loc), st₀.heap = H ∧ Stand p l e R s m args below meth c T' (locs ++ L) (cells + mc) (slots + ms) ∧ (∀ q ∈ L, free q.base) ∧ T'.heap = t.heap ∧ T'.vm = t.vm ∧ Qa st₀ (.returned v) t ∧
      Goes p e below T g T' { g with pc := g.pc + 3, stack := v.toList ++ rest }) ∨
    (∃ (q : Addr) (st₀ t T' : State) (L : List Loc) (E : String) (ce : Cell), st₀.heap = H ∧ Stand p l e R s m args below meth c T' (locs ++ L) (cells + mc) (slots + ms) ∧ (∀ z ∈ L, free z.base) ∧ T'.heap = t.heap ∧ T'.vm = t.vm ∧ XC E st₀ t ∧ t.heap[q]? = some ce ∧ ce.vm = .none ∧ s.vm.findClass E = some ce.cls ∧
      Steps p.tables e below (T.setTop g) ((T'.setTop { g with stack := rest }).pushFrame (.throwing q)))
def vx_X {S : Type} (px : S → Prop) (B : String → S → State → Prop) (A : Nat → Prop) : String → State → State → Prop := fun E st t => ∃ u : S, px u ∧ B E u t ∧ va_F A st t
section Runs
variable {p : Program} {l : Launch} {e : Env} {R : Room} {s : State} {m : MethodId} {args : Array Value} {below : List Frame} {meth : Method} {c : Code} {H : Heap} {locs : List Loc} {cells slots : Nat}
variable {y : MethodName} {bytes cc : ByteArray} {maxL nL mc ms n index : Nat} {ret : Option FieldType} {ws : List Cond} {rm : Room} {Pc : Array Value → State → Prop} {Qc : Array Value → State → Outcome → State → Prop} {XC : String → State → State → Prop} {free : Addr → Prop} {Ts : List Cond} {own C : String} {b : Addr} {As rest : List Value} {g : JFrame}
theorem vx_callBack (cb : CallB R s args own index y bytes maxL ret ws rm mc ms n) (hM : vx_Met l y ws rm Pc Qc XC mc ms free) (hbl : FrameBlind Pc) : vx_Back l R p e below s args y 3 8 (PreOf R mc ms Pc) (PostOf Qc mc ms free) (vx_Post XC mc ms free) := by
  obtain ⟨hrc, hrs, hfr, hlo, hws, hcw, -, hini, -⟩ := cb
  exact vx_back (bytes := bytes) (maxL := maxL) (ret := ret) hM hbl hrc hrs hfr hlo hws hcw (fun a' U hW => word_at hW (Or.inl (by first | rfl | simp [Cond.onTables, Cond.keeps, Cond.steady])) hini)
theorem vx_runV (S : CallFix p m c cc nL s args Ts own) (hM : vx_Met l y ws rm Pc Qc XC mc ms free) (cw : CallW R s args own C index y bytes maxL ret ws rm mc ms n) (hp : PreV s H C b Pc As)
    (hg : g.method = m) (hn : As.length = n) (hsize : g.locals.size = nL) (hstack : g.stack = As.reverse ++ .ref b :: rest) (hW : 2 * g.monitorRoom + (rest.map fun v => v.category).sum ≤ 8) (hdg : decode cc g.pc = .ok (.invokevirtual index, 3)) (hf : cells + mc ≤ R.cells ∧ slots + ms ≤ R.slots) :
    vx_Run p l e R s m args below meth c H locs cells slots mc ms g rest (Qc (Value.ref b :: As).toArray) XC free := by
  have hK : vx_Back l R p e below s args y 3 8 (PreOf R mc ms Pc) (PostOf Qc mc ms free) (vx_Post XC mc ms free) := vx_callBack cw.1 hM hp.1
  obtain ⟨⟨-, -, -, -, -, -, hcode, -, hy, hlen, hl⟩, hin, hse⟩ := cw
  obtain ⟨hx, hb, hml, ho, -⟩ := S
  obtain ⟨-, ⟨cellB, hcB, hoB, hclB⟩, hPc⟩ := hp
  intro T hT X
  rcases vx_callV X hx (C := C) (bytes := bytes) (maxL := maxL) (ret := ret) ho hl hin hse hcode hy hK (by rw [hT]; exact hcB) hoB hclB hg (hsize.trans hml.symm) (argsL := As) (rest := rest) (fun sig h => hn.trans (hlen sig h)) hstack hW (by rw [hb]; exact hdg)
    (fun vm₁ hW₁ => ⟨hf.1, hf.2, hPc (T.setVm vm₁) hT hW₁⟩) with ⟨v, vm₁, ⟨U', l2, c2, s2⟩, hW₁, X', ⟨g', mk, t, L, e1, e2, hq, h1, hL, h2, h3⟩, st⟩ | ⟨q, vm₁, ⟨U', l2, c2, s2⟩, hW₁, X', ⟨g', mk, t, L, E, ce, e1, e2, hq, hce, hcv, hcl, h1, hL, h2, h3⟩, st⟩
  · dsimp only [Pt.U, Pt.locs, Pt.cells, Pt.slots] at X' e1 e2 h1 h2 h3 st
    subst h1; subst h2; subst h3
    exact Or.inl ⟨v, (T.setVm vm₁).calling g' mk (Value.ref b :: As).toArray, t, U', L, hT, X', hL, e1, e2, hq, st⟩
  · dsimp only [Pt.U, Pt.locs, Pt.cells, Pt.slots] at X' e1 e2 h1 h2 h3 st hcl
    subst h1; subst h2; subst h3
    exact Or.inr ⟨q, (T.setVm vm₁).calling g' mk (Value.ref b :: As).toArray, t, U', L, E, ce, hT, X', hL, e1, e2, hq, hce, hcv, vx_cls hW₁ hcl, st⟩
theorem vx_runS (S : CallFix p m c cc nL s args Ts own) (hM : vx_Met l y ws rm Pc Qc XC mc ms free) (cw : CallB R s args own index y bytes maxL ret ws rm mc ms n ∧ (Cond.static y).before args s = true) (hp : PreS s H Pc As)
    (hg : g.method = m) (hn : As.length = n) (hsize : g.locals.size = nL) (hstack : g.stack = As.reverse ++ rest) (hW : 2 * g.monitorRoom + (rest.map fun v => v.category).sum ≤ 8) (hdg : decode cc g.pc = .ok (.invokestatic index, 3)) (hf : cells + mc ≤ R.cells ∧ slots + ms ≤ R.slots) :
    vx_Run p l e R s m args below meth c H locs cells slots mc ms g rest (Qc As.toArray) XC free := by
  have hK : vx_Back l R p e below s args y 3 8 (PreOf R mc ms Pc) (PostOf Qc mc ms free) (vx_Post XC mc ms free) := vx_callBack cw.1 hM hp.1
  obtain ⟨⟨-, -, -, -, -, -, hcode, hini, hy, hlen, hl⟩, hstt⟩ := cw
  obtain ⟨hx, hb, hml, ho, -⟩ := S
  intro T hT X
  rcases vx_callS X hx (bytes := bytes) (maxL := maxL) (ret := ret) ho hl hstt hini hcode hy hK hg (hsize.trans hml.symm) (argsL := As) (rest := rest) (fun sig h => hn.trans (hlen sig h)) hstack hW (by rw [hb]; exact hdg)
    (fun vm₁ hW₁ => ⟨hf.1, hf.2, hp.2 (T.setVm vm₁) hT hW₁⟩) with ⟨v, vm₁, ⟨U', l2, c2, s2⟩, hW₁, X', ⟨g', mk, t, L, e1, e2, hq, h1, hL, h2, h3⟩, st⟩ | ⟨q, vm₁, ⟨U', l2, c2, s2⟩, hW₁, X', ⟨g', mk, t, L, E, ce, e1, e2, hq, hce, hcv, hcl, h1, hL, h2, h3⟩, st⟩
  · dsimp only [Pt.U, Pt.locs, Pt.cells, Pt.slots] at X' e1 e2 h1 h2 h3 st
    subst h1; subst h2; subst h3
    exact Or.inl ⟨v, (T.setVm vm₁).calling g' mk As.toArray, t, U', L, hT, X', hL, e1, e2, hq, st⟩
  · dsimp only [Pt.U, Pt.locs, Pt.cells, Pt.slots] at X' e1 e2 h1 h2 h3 st hcl
    subst h1; subst h2; subst h3
    exact Or.inr ⟨q, (T.setVm vm₁).calling g' mk As.toArray, t, U', L, E, ce, hT, X', hL, e1, e2, hq, hce, hcv, vx_cls hW₁ hcl, st⟩
end Runs
section Rows
variable {p : Program} {l : Launch} {e : Env} {R : Room} {s : State} {m : MethodId} {args : Array Value} {below : List Frame} {meth : Method} {c : Code} {H : Heap} {locs : List Loc} {cells slots : Nat} {Q : State → Prop}
variable {mc ms : Nat} {free : Addr → Prop} {A0 A1 : Nat → Prop} {H0 : Heap} {a : Array Value} {pc : Nat} {ls : Array Slot} {st0 rest : List Value}
theorem vx_keep {st₀ t T' : State} {L : List Loc} (h0 : st₀.heap = H) (e1 : T'.heap = t.heap) (hS : va_S A0 H0 H locs) (hA : ∀ q, q < H.size → A1 q → A0 q) (hf : ∀ q, free q → A0 q) (hL : ∀ q ∈ L, free q.base) (hF : va_F A1 st₀ t) :
    H.size ≤ T'.heap.size ∧ (∀ q : Nat, q < H.size → ¬ A1 q → T'.heap[q]? = H[q]?) ∧ va_S A0 H0 T'.heap (locs ++ L) := by
  obtain ⟨hz, hk⟩ := hF
  rw [h0] at hz hk
  exact ⟨by rw [e1]; exact hz, fun q h1 h2 => by rw [e1]; exact hk q h1 h2,
    ⟨Nat.le_trans hS.1 (by rw [e1]; exact hz), fun q h1 h2 => by rw [e1, hk q (Nat.lt_of_lt_of_le h1 hS.1) (fun z => h2 (hA q (Nat.lt_of_lt_of_le h1 hS.1) z))]; exact hS.2.1 q h1 h2, fun q hq => by
      rcases List.mem_append.mp hq with h | h
      · exact hS.2.2 q h
      · exact hf _ (hL q h)⟩⟩
theorem vx_calli {S SX : Type} {post : Int32 → S → Prop} {px : SX → Prop} {B : S → State → Prop} {BX : String → SX → State → Prop} {AX : Nat → Prop} (hr : vx_Run p l e R s m args below meth c H locs cells slots mc ms (F0 m pc ls st0) rest (va_Qi post B A1 a) (vx_X px BX AX) free) (hS : va_S A0 H0 H locs) (hA : ∀ q, q < H.size → A1 q → A0 q) (hf : ∀ q, free q → A0 q) (hAX : ∀ q, q < H.size → AX q → A0 q)
    (kx : ∀ (E : String) (ce : Cell) (q9 : Addr) (u : SX) (t : State) (H1 : Heap) (locs1 : List Loc), t.heap = H1 → s.vm.Alike t.vm → px u → BX E u t → H.size ≤ H1.size → (∀ q : Nat, q < H.size → ¬ AX q → H1[q]? = H[q]?) → va_S A0 H0 H1 locs1 → H1[q9]? = some ce → ce.vm = .none → s.vm.findClass E = some ce.cls → vx_W p l e R s m args below meth c H1 locs1 (cells + mc) (slots + ms) Q (F0 m pc ls rest) q9)
    (kk : ∀ (r : Int32) (u : S) (t : State) (H1 : Heap) (locs1 : List Loc), t.heap = H1 → s.vm.Alike t.vm → post r u → B u t → H.size ≤ H1.size → (∀ q : Nat, q < H.size → ¬ A1 q → H1[q]? = H[q]?) → va_S A0 H0 H1 locs1 → W p l e R s m args below meth c H1 locs1 (cells + mc) (slots + ms) Q (F0 m (pc + 3) ls (.int r :: rest))) : W p l e R s m args below meth c H locs cells slots Q (F0 m pc ls st0) := by
  intro T hT X
  rcases hr T hT X with ⟨v, st₀, t, T', L, h0, X', hL, e1, e2, ⟨⟨r, u, hv, hp, hb⟩, hF⟩, st⟩ | ⟨q, st₀, t, T', L, E, ce, h0, X', hL, e1, e2, ⟨u, hp, hb, hF⟩, hce, hcv, hcl, st⟩
  · cases hv
    obtain ⟨k1, k2, k3⟩ := vx_keep h0 e1 hS hA hf hL hF
    obtain ⟨t2, a1, b1⟩ := kk r u t T'.heap (locs ++ L) e1.symm (by rw [← e2]; exact X'.warmed.alike) hp hb k1 k2 k3 T' rfl X'
    exact ⟨t2, st t2 a1, b1⟩
  · obtain ⟨k1, k2, k3⟩ := vx_keep h0 e1 hS hAX hf hL hF
    obtain ⟨t2, a1, b1⟩ := kx E ce q u t T'.heap (locs ++ L) e1.symm (by rw [← e2]; exact X'.warmed.alike) hp hb k1 k2 k3 (by rw [e1]; exact hce) hcv hcl T' rfl X'
    exact ⟨t2, st.trans a1, b1⟩
theorem vx_calll {S SX : Type} {post : Int64 → S → Prop} {px : SX → Prop} {B : S → State → Prop} {BX : String → SX → State → Prop} {AX : Nat → Prop} (hr : vx_Run p l e R s m args below meth c H locs cells slots mc ms (F0 m pc ls st0) rest (va_Ql post B A1 a) (vx_X px BX AX) free) (hS : va_S A0 H0 H locs) (hA : ∀ q, q < H.size → A1 q → A0 q) (hf : ∀ q, free q → A0 q) (hAX : ∀ q, q < H.size → AX q → A0 q)
    (kx : ∀ (E : String) (ce : Cell) (q9 : Addr) (u : SX) (t : State) (H1 : Heap) (locs1 : List Loc), t.heap = H1 → s.vm.Alike t.vm → px u → BX E u t → H.size ≤ H1.size → (∀ q : Nat, q < H.size → ¬ AX q → H1[q]? = H[q]?) → va_S A0 H0 H1 locs1 → H1[q9]? = some ce → ce.vm = .none → s.vm.findClass E = some ce.cls → vx_W p l e R s m args below meth c H1 locs1 (cells + mc) (slots + ms) Q (F0 m pc ls rest) q9)
    (kk : ∀ (r : Int64) (u : S) (t : State) (H1 : Heap) (locs1 : List Loc), t.heap = H1 → s.vm.Alike t.vm → post r u → B u t → H.size ≤ H1.size → (∀ q : Nat, q < H.size → ¬ A1 q → H1[q]? = H[q]?) → va_S A0 H0 H1 locs1 → W p l e R s m args below meth c H1 locs1 (cells + mc) (slots + ms) Q (F0 m (pc + 3) ls (.long r :: rest))) : W p l e R s m args below meth c H locs cells slots Q (F0 m pc ls st0) := by
  intro T hT X
  rcases hr T hT X with ⟨v, st₀, t, T', L, h0, X', hL, e1, e2, ⟨⟨r, u, hv, hp, hb⟩, hF⟩, st⟩ | ⟨q, st₀, t, T', L, E, ce, h0, X', hL, e1, e2, ⟨u, hp, hb, hF⟩, hce, hcv, hcl, st⟩
  · cases hv
    obtain ⟨k1, k2, k3⟩ := vx_keep h0 e1 hS hA hf hL hF
    obtain ⟨t2, a1, b1⟩ := kk r u t T'.heap (locs ++ L) e1.symm (by rw [← e2]; exact X'.warmed.alike) hp hb k1 k2 k3 T' rfl X'
    exact ⟨t2, st t2 a1, b1⟩
  · obtain ⟨k1, k2, k3⟩ := vx_keep h0 e1 hS hAX hf hL hF
    obtain ⟨t2, a1, b1⟩ := kx E ce q u t T'.heap (locs ++ L) e1.symm (by rw [← e2]; exact X'.warmed.alike) hp hb k1 k2 k3 (by rw [e1]; exact hce) hcv hcl T' rfl X'
    exact ⟨t2, st.trans a1, b1⟩
theorem vx_callf {S SX : Type} {post : UInt32 → S → Prop} {px : SX → Prop} {B : S → State → Prop} {BX : String → SX → State → Prop} {AX : Nat → Prop} (hr : vx_Run p l e R s m args below meth c H locs cells slots mc ms (F0 m pc ls st0) rest (va_Qf post B A1 a) (vx_X px BX AX) free) (hS : va_S A0 H0 H locs) (hA : ∀ q, q < H.size → A1 q → A0 q) (hf : ∀ q, free q → A0 q) (hAX : ∀ q, q < H.size → AX q → A0 q)
    (kx : ∀ (E : String) (ce : Cell) (q9 : Addr) (u : SX) (t : State) (H1 : Heap) (locs1 : List Loc), t.heap = H1 → s.vm.Alike t.vm → px u → BX E u t → H.size ≤ H1.size → (∀ q : Nat, q < H.size → ¬ AX q → H1[q]? = H[q]?) → va_S A0 H0 H1 locs1 → H1[q9]? = some ce → ce.vm = .none → s.vm.findClass E = some ce.cls → vx_W p l e R s m args below meth c H1 locs1 (cells + mc) (slots + ms) Q (F0 m pc ls rest) q9)
    (kk : ∀ (r : UInt32) (u : S) (t : State) (H1 : Heap) (locs1 : List Loc), t.heap = H1 → s.vm.Alike t.vm → post r u → B u t → H.size ≤ H1.size → (∀ q : Nat, q < H.size → ¬ A1 q → H1[q]? = H[q]?) → va_S A0 H0 H1 locs1 → W p l e R s m args below meth c H1 locs1 (cells + mc) (slots + ms) Q (F0 m (pc + 3) ls (.float r :: rest))) : W p l e R s m args below meth c H locs cells slots Q (F0 m pc ls st0) := by
  intro T hT X
  rcases hr T hT X with ⟨v, st₀, t, T', L, h0, X', hL, e1, e2, ⟨⟨r, u, hv, hp, hb⟩, hF⟩, st⟩ | ⟨q, st₀, t, T', L, E, ce, h0, X', hL, e1, e2, ⟨u, hp, hb, hF⟩, hce, hcv, hcl, st⟩
  · cases hv
    obtain ⟨k1, k2, k3⟩ := vx_keep h0 e1 hS hA hf hL hF
    obtain ⟨t2, a1, b1⟩ := kk r u t T'.heap (locs ++ L) e1.symm (by rw [← e2]; exact X'.warmed.alike) hp hb k1 k2 k3 T' rfl X'
    exact ⟨t2, st t2 a1, b1⟩
  · obtain ⟨k1, k2, k3⟩ := vx_keep h0 e1 hS hAX hf hL hF
    obtain ⟨t2, a1, b1⟩ := kx E ce q u t T'.heap (locs ++ L) e1.symm (by rw [← e2]; exact X'.warmed.alike) hp hb k1 k2 k3 (by rw [e1]; exact hce) hcv hcl T' rfl X'
    exact ⟨t2, st.trans a1, b1⟩
theorem vx_calld {S SX : Type} {post : UInt64 → S → Prop} {px : SX → Prop} {B : S → State → Prop} {BX : String → SX → State → Prop} {AX : Nat → Prop} (hr : vx_Run p l e R s m args below meth c H locs cells slots mc ms (F0 m pc ls st0) rest (va_Qd post B A1 a) (vx_X px BX AX) free) (hS : va_S A0 H0 H locs) (hA : ∀ q, q < H.size → A1 q → A0 q) (hf : ∀ q, free q → A0 q) (hAX : ∀ q, q < H.size → AX q → A0 q)
    (kx : ∀ (E : String) (ce : Cell) (q9 : Addr) (u : SX) (t : State) (H1 : Heap) (locs1 : List Loc), t.heap = H1 → s.vm.Alike t.vm → px u → BX E u t → H.size ≤ H1.size → (∀ q : Nat, q < H.size → ¬ AX q → H1[q]? = H[q]?) → va_S A0 H0 H1 locs1 → H1[q9]? = some ce → ce.vm = .none → s.vm.findClass E = some ce.cls → vx_W p l e R s m args below meth c H1 locs1 (cells + mc) (slots + ms) Q (F0 m pc ls rest) q9)
    (kk : ∀ (r : UInt64) (u : S) (t : State) (H1 : Heap) (locs1 : List Loc), t.heap = H1 → s.vm.Alike t.vm → post r u → B u t → H.size ≤ H1.size → (∀ q : Nat, q < H.size → ¬ A1 q → H1[q]? = H[q]?) → va_S A0 H0 H1 locs1 → W p l e R s m args below meth c H1 locs1 (cells + mc) (slots + ms) Q (F0 m (pc + 3) ls (.double r :: rest))) : W p l e R s m args below meth c H locs cells slots Q (F0 m pc ls st0) := by
  intro T hT X
  rcases hr T hT X with ⟨v, st₀, t, T', L, h0, X', hL, e1, e2, ⟨⟨r, u, hv, hp, hb⟩, hF⟩, st⟩ | ⟨q, st₀, t, T', L, E, ce, h0, X', hL, e1, e2, ⟨u, hp, hb, hF⟩, hce, hcv, hcl, st⟩
  · cases hv
    obtain ⟨k1, k2, k3⟩ := vx_keep h0 e1 hS hA hf hL hF
    obtain ⟨t2, a1, b1⟩ := kk r u t T'.heap (locs ++ L) e1.symm (by rw [← e2]; exact X'.warmed.alike) hp hb k1 k2 k3 T' rfl X'
    exact ⟨t2, st t2 a1, b1⟩
  · obtain ⟨k1, k2, k3⟩ := vx_keep h0 e1 hS hAX hf hL hF
    obtain ⟨t2, a1, b1⟩ := kx E ce q u t T'.heap (locs ++ L) e1.symm (by rw [← e2]; exact X'.warmed.alike) hp hb k1 k2 k3 (by rw [e1]; exact hce) hcv hcl T' rfl X'
    exact ⟨t2, st.trans a1, b1⟩
theorem vx_callv {S SX : Type} {post : S → Prop} {px : SX → Prop} {B : S → State → Prop} {BX : String → SX → State → Prop} {AX : Nat → Prop} (hr : vx_Run p l e R s m args below meth c H locs cells slots mc ms (F0 m pc ls st0) rest (va_Qv post B A1 a) (vx_X px BX AX) free) (hS : va_S A0 H0 H locs) (hA : ∀ q, q < H.size → A1 q → A0 q) (hf : ∀ q, free q → A0 q) (hAX : ∀ q, q < H.size → AX q → A0 q)
    (kx : ∀ (E : String) (ce : Cell) (q9 : Addr) (u : SX) (t : State) (H1 : Heap) (locs1 : List Loc), t.heap = H1 → s.vm.Alike t.vm → px u → BX E u t → H.size ≤ H1.size → (∀ q : Nat, q < H.size → ¬ AX q → H1[q]? = H[q]?) → va_S A0 H0 H1 locs1 → H1[q9]? = some ce → ce.vm = .none → s.vm.findClass E = some ce.cls → vx_W p l e R s m args below meth c H1 locs1 (cells + mc) (slots + ms) Q (F0 m pc ls rest) q9)
    (kk : ∀ (u : S) (t : State) (H1 : Heap) (locs1 : List Loc), t.heap = H1 → s.vm.Alike t.vm → post u → B u t → H.size ≤ H1.size → (∀ q : Nat, q < H.size → ¬ A1 q → H1[q]? = H[q]?) → va_S A0 H0 H1 locs1 → W p l e R s m args below meth c H1 locs1 (cells + mc) (slots + ms) Q (F0 m (pc + 3) ls (rest))) : W p l e R s m args below meth c H locs cells slots Q (F0 m pc ls st0) := by
  intro T hT X
  rcases hr T hT X with ⟨v, st₀, t, T', L, h0, X', hL, e1, e2, ⟨⟨u, hv, hp, hb⟩, hF⟩, st⟩ | ⟨q, st₀, t, T', L, E, ce, h0, X', hL, e1, e2, ⟨u, hp, hb, hF⟩, hce, hcv, hcl, st⟩
  · cases hv
    obtain ⟨k1, k2, k3⟩ := vx_keep h0 e1 hS hA hf hL hF
    obtain ⟨t2, a1, b1⟩ := kk u t T'.heap (locs ++ L) e1.symm (by rw [← e2]; exact X'.warmed.alike) hp hb k1 k2 k3 T' rfl X'
    exact ⟨t2, st t2 a1, b1⟩
  · obtain ⟨k1, k2, k3⟩ := vx_keep h0 e1 hS hAX hf hL hF
    obtain ⟨t2, a1, b1⟩ := kx E ce q u t T'.heap (locs ++ L) e1.symm (by rw [← e2]; exact X'.warmed.alike) hp hb k1 k2 k3 (by rw [e1]; exact hce) hcv hcl T' rfl X'
    exact ⟨t2, st.trans a1, b1⟩
/-- caught by the row x of this method's table; the rows ahead don't take it -/
theorem vx_catch {own name : String} {E : String} {ce : Cell} {q : Addr} (hown : s.vm.findClass own = some m.cls) (pre : List ExceptionTableEntry) (x : ExceptionTableEntry) (suf : List ExceptionTableEntry) (hsplit : c.exceptionTable.toList = pre ++ x :: suf)
    (hpass : ∀ z ∈ pre, covers z pc = false ∨ (z.catchType ≠ 0 ∧ ∃ nm : String, (Cond.classLink own z.catchType nm).before args s = true ∧ va_Nc E nm s)) (hx : covers x pc = true) (h0 : x.catchType ≠ 0)
    (hlink : (Cond.classLink own x.catchType name).before args s = true) (hcast : (Cond.castable E name).before args s = true) (hcell : H[q]? = some ce) (hv : ce.vm = .none) (hcl : s.vm.findClass E = some ce.cls)
    (kk : W p l e R s m args below meth c H locs cells slots Q (F0 m x.handlerPc ls [.ref q])) : vx_W p l e R s m args below meth c H locs cells slots Q (F0 m pc ls rest) q := by
  intro T hT X
  have hpl : e.platform.magicAccessors = ({} : Platform).magicAccessors := by rw [X.admits.platform]
  obtain ⟨c3, c4, hc3, hc4, hasg⟩ := Cond.castable_spec hcast
  cases Option.some.inj (hc3.symm.trans hcl)
  obtain ⟨c5, hc5, hcl5⟩ := Cond.classLink_spec hown hlink e.platform hpl
  cases Option.some.inj (hc4.symm.trans hc5)
  obtain ⟨vm', X', st⟩ := X.thenCaughtThrough q (g := F0 m pc ls rest) rfl (Steps.refl _) (by rw [hT]; exact hcell) (by rw [hv]; rfl) (by obtain ⟨k9, h9, -⟩ := Vm.findClass_spec hcl; exact ⟨k9, h9⟩) pre x suf hsplit
    (fun z hz => by
      rcases hpass z hz with h | ⟨hz0, nm, hl1, hn1⟩
      · exact Or.inl h
      · obtain ⟨c6, hc6, hcl6⟩ := Cond.classLink_spec hown hl1 e.platform hpl
        obtain ⟨a8, b8, h1, h2, h3⟩ := hn1
        cases Option.some.inj (h1.symm.trans hcl)
        cases Option.some.inj (h2.symm.trans hc6)
        exact Or.inr ⟨hz0, _, hcl6, h3⟩) hx (Or.inr ⟨h0, c4, hcl5, hasg⟩)
  obtain ⟨t, a1, b1⟩ := kk (T.setVm vm') hT X'
  exact ⟨t, st.trans a1, b1⟩
end Rows
section Ends
variable {p : Program} {l : Launch} {e : Env} {R : Room} {s : State} {m : MethodId} {args : Array Value} {below : List Frame} {meth : Method} {c : Code} {H : Heap} {locs : List Loc} {cells slots : Nat} {Q : State → Prop}
variable {mc ms : Nat} {free : Addr → Prop} {A0 A1 : Nat → Prop} {H0 : Heap} {a : Array Value} {ls : Array Slot} {st0 rest : List Value}
variable {Qc : Array Value → State → Outcome → State → Prop} {XC : String → State → State → Prop}
/-- what a body that may throw owes at its end -/
def vx_MQ (below : List Frame) (Qc : Array Value → State → Outcome → State → Prop) (XC : String → State → State → Prop) (a : Array Value) (s : State) (mc ms : Nat) (free : Addr → Prop) : State → Prop := fun t =>
  ∃ o, t.status = .running ∧ Ended t below o ∧ vx_Q Qc XC mc ms free a s o t
theorem vx_ret {g : JFrame} {mc ms : Nat} (k : W p l e R s m args below meth c H locs cells slots (MQ below Qc args s mc ms free) g) : W p l e R s m args below meth c H locs cells slots (vx_MQ below Qc XC args s mc ms free) g := by
  intro T hT X
  obtain ⟨t, a1, o, b1, b2, b3, b4⟩ := k T hT X
  exact ⟨t, a1, o, b1, b2, Or.inl ⟨b3, b4⟩⟩
/-- not caught here: it goes on to the caller -/
theorem vx_widen {g : JFrame} {q : Addr} {k n : Nat} (h1 : cells ≤ k) (h2 : slots ≤ n) (kk : vx_W p l e R s m args below meth c H locs k n Q g q) : vx_W p l e R s m args below meth c H locs cells slots Q g q := fun T hT X => kk T hT (stand_widen X h1 h2)
theorem vx_out {pc : Nat} {E : String} {ce : Cell} {q : Addr} {mc ms : Nat} (hout : ∀ x ∈ c.exceptionTable.toList, covers x pc = false) (hlocks : meth.locks = false) (hcell : H[q]? = some ce) (hv : ce.vm = .none) (hcl : s.vm.findClass E = some ce.cls)
    (hx : ∀ t : State, t.heap = H → s.vm.Alike t.vm → XC E s t) (hf : ∀ z ∈ locs, free z.base) (hc : cells ≤ mc) (hs : slots ≤ ms) :
    vx_W p l e R s m args below meth c H locs cells slots (vx_MQ below Qc XC args s mc ms free) (F0 m pc ls rest) q := by
  intro T hT X
  obtain ⟨st1, hrun, hend, hW, hsm⟩ := X.leaveThrown q (g := F0 m pc ls rest) rfl rfl rfl hout hlocks
  have hcell9 : (T.setFrames (.throwing q :: below)).heap[q]? = some ce := by
    show T.heap[q]? = some ce
    rw [hT]; exact hcell
  exact ⟨_, st1, .threw q, hrun, hend, Or.inr ⟨q, rfl, E, ce, locs, hx _ hT hW.alike, hcell9, hv, hcl, hW, hsm.mono hc hs, hf⟩⟩
theorem vx_frame {U : State} {k n : Nat} (h : s.sameButNew ({ U with vm := s.vm } : State) locs k n) : s.heap.size ≤ U.heap.size ∧ ∀ q : Nat, q < s.heap.size → (∀ z ∈ locs, z.base ≠ q) → U.heap[q]? = s.heap[q]? := by
  obtain ⟨-, h2, -, -, -, h6⟩ := h
  refine ⟨h2, fun q hq hz => ?_⟩
  obtain ⟨c9, e1, e2, e3, e4⟩ := h6 q _ (Array.getElem?_eq_getElem hq)
  have hs : c9.slots = (s.heap[q]).slots := Array.ext_getElem? fun i => e4 i fun hm => hz _ hm rfl
  have h9 : c9 = s.heap[q] := by
    rw [hs] at e2
    exact e2
  have e5 : U.heap[q]? = some c9 := e1
  rw [e5, h9, Array.getElem?_eq_getElem hq]
/-- the words of a throw but the four that speak of the heap -/
def vx_no (w : Cond) : Bool := decide (w ≠ .isRef (.static Bundle.tN "UNASSIGNED_STACK" Bundle.steD)) && decide (w ≠ .isRef (.static Bundle.tN "SUPPRESSED_SENTINEL" Bundle.listD)) && decide (w ≠ .laysStatic Bundle.tN "UNASSIGNED_STACK" Bundle.steD) && decide (w ≠ .laysStatic Bundle.tN "SUPPRESSED_SENTINEL" Bundle.listD)
def vx_at0 (own : String) (ic : Nat) (X : String) (names : List String) : List Cond := (Bundle.ownAtoms0 own ic X names).filter vx_no
def vx_atS (own : String) (ic : Nat) (X : String) (names : List String) : List Cond := (Bundle.ownAtoms own ic X names).filter vx_no
/-- a word that the tables alone decide, or a good one -/
def vx_ot (w : Cond) : Bool := w.onTables || goodWord w
theorem vx_ot_at {args a' : Array Value} {s U : State} {w : Cond} (hW : s.WarmedH U.vm) (hvm : s.vm = U.vm) (hg : vx_ot w = true) (h : w.before args s = true) : w.before a' U = true := by
  simp only [vx_ot, Bool.or_eq_true] at hg
  rcases hg with hg | hg
  · exact va_tabs hg hvm h
  · exact word_at hW (good_of_word hg) h
/-- a list's words: the good ones out of the method's own list, the others by premises of their own -/
theorem vx_hat {args : Array Value} {s : State} {L B : List Cond} (h1 : ∀ w ∈ L.filter goodWord, w.before args s = true) (h2 : ∀ w ∈ L.filter (fun w => !goodWord w), w ∈ B) (h3 : ∀ w ∈ B, w.before args s = true) : ∀ w ∈ L, w.before args s = true := by
  intro w hw
  by_cases g : goodWord w = true
  · exact h1 w (List.mem_filter.mpr ⟨hw, g⟩)
  · refine h3 w (h2 w (List.mem_filter.mpr ⟨hw, ?_⟩))
    show (!goodWord w) = true
    cases hgw : goodWord w
    · rfl
    · exact absurd hgw g
theorem vx_c {args : Array Value} {s : State} {w : Cond} {B : List Cond} (h : w.before args s = true) (t : ∀ w ∈ B, w.before args s = true) : ∀ w' ∈ w :: B, w'.before args s = true := fun w' h' => (List.mem_cons.mp h').elim (fun e => by rw [e]; exact h) (t w')
theorem vx_n {args : Array Value} {s : State} : ∀ w ∈ ([] : List Cond), w.before args s = true := fun _ h => nomatch h
theorem vx_own {args : Array Value} {s : State} {L : List Cond} (h1 : ∀ w ∈ L.filter vx_no, w.before args s = true)
    (hU : (Cond.isRef (.static Bundle.tN "UNASSIGNED_STACK" Bundle.steD)).before args s = true) (hN : (Cond.isRef (.static Bundle.tN "SUPPRESSED_SENTINEL" Bundle.listD)).before args s = true)
    (lU : (Cond.laysStatic Bundle.tN "UNASSIGNED_STACK" Bundle.steD).before args s = true) (lN : (Cond.laysStatic Bundle.tN "SUPPRESSED_SENTINEL" Bundle.listD).before args s = true) : ∀ w ∈ L, w.before args s = true := by
  intro w hw
  by_cases e1 : w = .isRef (.static Bundle.tN "UNASSIGNED_STACK" Bundle.steD)
  · rw [e1]; exact hU
  · by_cases e2 : w = .isRef (.static Bundle.tN "SUPPRESSED_SENTINEL" Bundle.listD)
    · rw [e2]; exact hN
    · by_cases e3 : w = .laysStatic Bundle.tN "UNASSIGNED_STACK" Bundle.steD
      · rw [e3]; exact lU
      · by_cases e4 : w = .laysStatic Bundle.tN "SUPPRESSED_SENTINEL" Bundle.listD
        · rw [e4]; exact lN
        · exact h1 w (List.mem_filter.mpr ⟨hw, by unfold vx_no; rw [decide_eq_true e1, decide_eq_true e2, decide_eq_true e3, decide_eq_true e4]; rfl⟩)
/-- where a static field lies, its class's statics cell in H -/
def vx_L (C n d : String) (A : Nat → Prop) (U : State) (H : Heap) : Prop := ∃ (c : ClassId) (k : Class) (i : Nat) (f : Field) (a : Nat) (cell : Cell), U.vm.findClass C = some c ∧ U.fieldFound? C n d = some (c, k, i, f) ∧ f.isStatic = true ∧ k.statics = some a ∧ H[a]? = some cell ∧ cell.vm.isStatics = true ∧ cell.cls = c ∧ f.slot < cell.slots.size ∧ k.staticTypes[f.slot]? = some f.type ∧ ¬ A a
theorem vx_L.moved {C n d : String} {A : Nat → Prop} {u U : State} {H : Heap} (hvm : u.vm.Alike U.vm) (h : vx_L C n d A u H) : vx_L C n d A U H := by
  obtain ⟨c, k, i, f, a, cell, h1, h2, h3, h4, h5, h6, h7, h8, h9, h10⟩ := h
  obtain ⟨k', hi', he⟩ := State.fieldFound?_setVm hvm h2
  exact ⟨c, k', i, f, a, cell, by rw [hvm.findClass]; exact h1, hi', h3, by rw [he]; exact h4, h5, h6, h7, h8, by rw [he]; exact h9, h10⟩
theorem vx_L.kept {C n d : String} {A : Nat → Prop} {U : State} {H H1 : Heap} (h : vx_L C n d A U H) (hq : ∀ a : Nat, a < H.size → ¬ A a → H1[a]? = H[a]?) : vx_L C n d A U H1 := by
  obtain ⟨c, k, i, f, a, cell, h1, h2, h3, h4, h5, h6, h7, h8, h9, h10⟩ := h
  exact ⟨c, k, i, f, a, cell, h1, h2, h3, h4, by rw [hq a (Array.getElem?_eq_some_iff.mp h5).1 h10]; exact h5, h6, h7, h8, h9, h10⟩
theorem vx_L.narrow {C n d : String} {A B : Nat → Prop} {U : State} {H : Heap} (h : vx_L C n d A U H) (hAB : ∀ q, B q → A q) : vx_L C n d B U H := by
  obtain ⟨c, k, i, f, a, cell, h1, h2, h3, h4, h5, h6, h7, h8, h9, h10⟩ := h
  exact ⟨c, k, i, f, a, cell, h1, h2, h3, h4, h5, h6, h7, h8, h9, fun z => h10 (hAB _ z)⟩
theorem vx_L.word {C n d : String} {A : Nat → Prop} {s : State} {args : Array Value} (h : vx_L C n d A s s.heap) : (Cond.laysStatic C n d).before args s = true := by
  obtain ⟨c, k, i, f, a, cell, h1, h2, h3, h4, h5, h6, h7, h8, h9, -⟩ := h
  show (Cond.laysStatic C n d).holds args s none s [] = true
  exact Cond.laysStatic_of h1 h2 h3 h4 h5 h6 h7 h8 h9
/-- .. and what it holds: null or some reference -/
def vx_Zq (C n d : String) (A : Nat → Prop) (U : State) (H : Heap) : Prop := va_Zq C n d A U H ∧ vx_L C n d A U H
theorem vx_Zq.moved {C n d : String} {A : Nat → Prop} {u U : State} {H : Heap} (hvm : u.vm.Alike U.vm) (h : vx_Zq C n d A u H) : vx_Zq C n d A U H := ⟨va_Zq.moved hvm h.1, vx_L.moved hvm h.2⟩
theorem vx_Zq.kept {C n d : String} {A : Nat → Prop} {U : State} {H H1 : Heap} (h : vx_Zq C n d A U H) (hq : ∀ a : Nat, a < H.size → ¬ A a → H1[a]? = H[a]?) : vx_Zq C n d A U H1 := ⟨va_Zq.kept h.1 hq, vx_L.kept h.2 hq⟩
theorem vx_Zq.narrow {C n d : String} {A B : Nat → Prop} {U : State} {H : Heap} (h : vx_Zq C n d A U H) (hAB : ∀ q, B q → A q) : vx_Zq C n d B U H := ⟨va_Zq.narrow h.1 hAB, vx_L.narrow h.2 hAB⟩
theorem vx_Zqof {args : Array Value} {s : State} {C n d : String} {A : Nat → Prop} (hl : (Cond.laysStatic C n d).before args s = true) (hini : (Cond.initialized C).before args s = true) (h : (Cond.isRef (.static C n d)).before args s = true) (hA : ∀ a : Nat, a < s.heap.size → ¬ A a) : vx_Zq C n d A s s.heap := by
  refine ⟨va_Zqof hl hini h hA, ?_⟩
  obtain ⟨c, k, i, f, a, cell, h1, h2, h3, h4, h5, h6, h7, h8, h9⟩ := Cond.laysStatic_spec hl
  exact ⟨c, k, i, f, a, cell, h1, h2, h3, h4, h5, h6, h7, h8, h9, hA a (Array.getElem?_eq_some_iff.mp h5).1⟩
theorem vx_isRef {C n d : String} {v : Value} {A : Nat → Prop} {s : State} {args : Array Value} (h : va_Z C n d v A s s.heap) (hv : v.isRef = true) : (Cond.isRef (.static C n d)).before args s = true := by
  obtain ⟨cf, kf, fi, f, a, cell, h1, h2, h3, h4, h5, h6, h7, -⟩ := h
  have he : (Term.static C n d).eval args s none [] s = some v := by
    simp [Term.eval, State.fieldNamed?, h1, h2, h4, h5, h6, h7]
  simp only [Cond.before, Cond.holds, Cond.value, he]
  cases v <;> simp_all [Value.isRef]
theorem vx_isRefq {C n d : String} {A : Nat → Prop} {s : State} {args : Array Value} (h : va_Zq C n d A s s.heap) : (Cond.isRef (.static C n d)).before args s = true := by
  rcases h with h | ⟨t, h⟩
  · exact vx_isRef h rfl
  · exact vx_isRef h rfl
/-- the same frame, seen from here: as if the method were called anew in this heap -/
theorem vx_rebase {T : State} (X : Stand p l e R s m args below meth c T locs cells slots) {R' : Room} (hf : R'.frames ≤ R.frames) (hl : R'.locals ≤ R.locals) (hc : cells + R'.cells ≤ R.cells) (hs : slots + R'.slots ≤ R.slots) :
    Stand p l e R' ((T.setVm s.vm).setFrames (.invoking m args :: below)) m args below meth c T [] 0 0 := by
  have htop : (T.setVm s.vm).topJava?.isSome := X.here.top
  have hF : ((T.setVm s.vm).setFrames (.invoking m args :: below)).frames = .invoking m args :: below := State.frames_setFrames _ (State.cur_lt_of_top htop)
  obtain ⟨g₀, hg0⟩ := Option.isSome_iff_exists.mp htop
  obtain ⟨r, hr⟩ := State.topJava?_eq_some.mp hg0
  have hl9 : e.platform.stackLimits (T.setVm s.vm).me = e.platform.stackLimits s.me := X.limits
  have hb9 : (T.setVm s.vm).me.stackBytes = s.me.stackBytes := X.bytes
  refine ⟨X.admits, X.cas, X.clock, hF, ?_, X.hears, X.method, X.code, X.here, X.tail, X.warmed, ?_, ?_, ?_⟩
  · have h := X.room
    have hU : ((T.setVm s.vm).setFrames (.invoking m args :: below)).localsInUse = s.localsInUse := by
      rw [State.localsInUse_invoking hF (meth := meth) (c := c) X.method X.code, State.localsInUse_invoking X.frames X.method X.code]
    simp only [State.hasRoom, Bool.and_eq_true, decide_eq_true_eq] at h ⊢
    obtain ⟨⟨⟨⟨h1, h2, h3, h4, h5, h6⟩, h7⟩, h8⟩, h9⟩ := h
    rw [X.frames, List.length_cons] at h2 h3
    have q1 := X.heapSize
    have q2 := X.used
    simp only [hF, hU, List.length_cons, State.stackLimits_setFrames, State.stackBytes_setFrames, hl9, hb9]
    refine ⟨⟨⟨⟨by omega, by omega, by omega, by omega, by omega, h6⟩, ?_⟩, ?_⟩, X.book⟩
    · show T.heap.size + R'.cells ≤ e.platform.maxCells
      omega
    · show T.slotsUsed + R'.slots ≤ e.platform.maxSlots
      omega
  · rw [State.stackLimits_setFrames]; rfl
  · rw [State.stackBytes_setFrames]; rfl
  · refine ⟨?_, Nat.le_refl _, Nat.le_refl _, ?_, ?_, fun a c9 h9 => ⟨c9, h9, rfl, rfl, fun _ _ => rfl⟩⟩
    · obtain ⟨t, ht, -⟩ := State.frames_cons hr
      show T.setVm s.vm = { ((T.setVm s.vm).setFrames (.invoking m args :: below)).setFrames (T.setVm s.vm).frames with heap := T.heap, slotsUsed := T.slotsUsed }
      rw [State.setFrames_setFrames, State.setFrames_self ht]
      rfl
    · show T.slotsUsed = T.slotsUsed + ((T.heap.toList.drop T.heap.size).map (·.slots.size)).sum
      rw [List.drop_eq_nil_of_le (Nat.le_of_eq Array.length_toList)]
      rfl
    · show ((T.heap.toList.drop T.heap.size).map (·.slots.size)).sum ≤ 0
      rw [List.drop_eq_nil_of_le (Nat.le_of_eq Array.length_toList)]
      exact Nat.le_refl _
/-- 'throw new E()': new; dup; invokespecial; athrow -/
theorem vx_throw0 {cc : ByteArray} {pc : Nat} (hexec : p.tables.exec = Jvm.exec) (hb : c.code = cc) (hl : l.stackTraces = false) {own cls : String} {names : List String} {ik ic mc ms : Nat} {A : Nat → Prop}
    (hown : s.vm.findClass own = some m.cls) (hcls : Bundle.fit cls = true) (hnames : ∀ n ∈ names, Bundle.fit n = true)
    (hk : (Cond.classLink own ik cls).before args s = true) (hini : (Cond.initialized cls).before args s = true) (hat : ∀ w ∈ vx_at0 own ic cls names, w.before args s = true)
    (hgood : ∀ w ∈ Cond.classLink own ik cls :: Cond.initialized cls :: vx_at0 own ic cls names, vx_ot w = true)
    (hU : vx_Zq Bundle.tN "UNASSIGNED_STACK" Bundle.steD A s s.heap) (hN : vx_Zq Bundle.tN "SUPPRESSED_SENTINEL" Bundle.listD A s s.heap) (hS : va_S A s.heap H locs) (hsize : ls.size = c.maxLocals)
    (d0 : decode cc pc = .ok (.new ik, 3)) (d3 : decode cc (pc + 3) = .ok (.dup, 1)) (d4 : decode cc (pc + 4) = .ok (.invokespecial ic, 3)) (d7 : decode cc (pc + 7) = .ok (.athrow, 1))
    (hout : ∀ x ∈ c.exceptionTable.toList, covers x (pc + 7) = false)
    (hRframes : names.length + 3 < R.frames) (hRlocals : (rest.map fun v => v.category).sum + (13 * (names.length + 1) + 42) ≤ R.locals) (hRcells : cells + 1 ≤ R.cells) (hRslots : slots + 6 ≤ R.slots) (hlocks : meth.locks = false)
    (hx : ∀ t : State, s.vm.Alike t.vm → H.size ≤ t.heap.size → (∀ q : Nat, q < H.size → t.heap[q]? = H[q]?) → XC cls s t)
    (hf : ∀ z ∈ locs, free z.base) (hc : cells + 1 ≤ mc) (hs : slots + 6 ≤ ms) :
    W p l e R s m args below meth c H locs cells slots (vx_MQ below Qc XC args s mc ms free) (F0 m pc ls rest) := by
  intro T hT X
  have htr : e.platform.stackTraces = false := (show e.platform.stackTraces = l.stackTraces by rw [X.admits.platform]).trans hl
  have Y := vx_rebase X (R' := { frames := R.frames, locals := R.locals, cells := 1, slots := 6 }) (Nat.le_refl _) (Nat.le_refl _) hRcells hRslots
  obtain ⟨s', hA⟩ : ∃ z, z = (T.setVm s.vm).setFrames (.invoking m args :: below) := ⟨_, rfl⟩
  rw [← hA] at Y
  have hvm : s'.vm = s.vm := by rw [hA]; rfl
  have hhp : s'.heap = H := by rw [hA]; exact hT
  have hW0 : s.WarmedH s'.vm := by rw [hvm]; exact State.WarmedH.refl s
  have hat' : ∀ w ∈ vx_at0 own ic cls names, w.before args s' = true := fun w hw => vx_ot_at hW0 hvm.symm (hgood w (List.mem_cons_of_mem _ (List.mem_cons_of_mem _ hw))) (hat w hw)
  have hk' : (Cond.classLink own ik cls).before args s' = true := vx_ot_at hW0 hvm.symm (hgood _ List.mem_cons_self) hk
  have hini' : (Cond.initialized cls).before args s' = true := vx_ot_at hW0 hvm.symm (hgood _ (List.mem_cons_of_mem _ List.mem_cons_self)) hini
  have hU' : vx_Zq Bundle.tN "UNASSIGNED_STACK" Bundle.steD A s' s'.heap := by rw [hhp]; exact vx_Zq.moved hW0.alike (hU.kept hS.2.1)
  have hN' : vx_Zq Bundle.tN "SUPPRESSED_SENTINEL" Bundle.listD A s' s'.heap := by rw [hhp]; exact vx_Zq.moved hW0.alike (hN.kept hS.2.1)
  have h : ∀ w ∈ Bundle.ownAtoms0 own ic cls names, w.before args s' = true := vx_own hat' (vx_isRefq hU'.1) (vx_isRefq hN'.1) hU'.2.word hN'.2.word
  have hown' : s'.vm.findClass own = some m.cls := by rw [hvm]; exact hown
  have hins : (Cond.instantiable cls 6).before args s' = true := h _ (by simp [Bundle.ownAtoms0])
  obtain ⟨vm₁, cX, kX, hfX, hkX, -, -, X₁, st1⟩ := Y.newCold hexec (own := own) (C := cls) (index := ik) (n := 6) hown' hk' hins hini'
    (g := F0 m pc ls rest) rfl (by rw [hb]; exact d0) (Nat.le_refl _) (Nat.le_refl _)
  generalize hT1 : (T.setVm vm₁).pushCell { cls := cX, slots := kX.instanceTypes.map defaultValue, vm := .none } = T1 at X₁ st1
  have hcat : (Value.ref T.heap.size).category = 1 := rfl
  have hcellA : T1.heap[T.heap.size]? = some (freshCell cX kX) := by rw [← hT1]; exact State.heap_pushCell_size _ _
  have d3' : decode c.code (pc + 3) = .ok (.dup, 1) := by rw [hb]; exact d3
  obtain ⟨U, hsteps, hrun, hend, hW, hsame, ce, hce, hO⟩ := X₁.ctorThrow0 hexec htr (own := own) (cls := cls) (names := names) (ic := ic) hown' hcls hnames h (fun x hx => nomatch hx) hfX hkX hcellA (by rw [hhp, hT]; exact Nat.le_refl _)
    (g := { method := m, pc := pc + 4, locals := ls, stack := .ref T.heap.size :: .ref T.heap.size :: rest, locked := none }) rfl hsize rfl rfl (rest := rest) rfl
    (by rw [hb]; exact d4) (by rw [hb]; exact d7) hout hRframes (by simp only [List.map_cons, List.sum_cons, hcat]; omega) hlocks
  obtain ⟨f1, f2⟩ := vx_frame hsame
  rw [hhp] at f1 f2
  have hWs : s.WarmedH U.vm := State.WarmedH.trans hW0 hW
  have hcl : s.vm.findClass cls = some ce.cls := by
    have h9 := hO.cls
    rw [hvm] at h9
    exact h9
  have hall : s.sameButNew ({ U with vm := s.vm } : State) locs mc ms := by
    subst hA
    obtain ⟨e1, e2⟩ := hsame
    rw [State.setFrames_setFrames] at e1
    have h2 : (T.setVm s.vm).sameButNew ({ U with vm := s.vm } : State) [] (0 + 1) (0 + 6) := ⟨e1, e2⟩
    have h3 := X.same.trans h2
    rw [List.append_nil] at h3
    exact h3.mono hc hs
  refine ⟨U, ?_, .threw T.heap.size, hrun, hend, Or.inr ⟨T.heap.size, rfl, cls, ce, locs, hx U hWs.alike f1 (fun q hq => f2 q hq (fun z hz => nomatch hz)), hce, hO.vm, hcl, hWs, hall, hf⟩⟩
  refine st1 _ ?_
  show Steps p.tables e below (T1.setTop { method := m, pc := pc + 3, locals := ls, stack := .ref T.heap.size :: rest, locked := none }) _
  jvm_step X₁.here [X₁.here.top, hexec, d3', Value.category]
  exact hsteps
/-- 'throw new E("text")': new; dup; ldc; invokespecial; athrow -/
theorem vx_throwS {cc : ByteArray} {pc : Nat} (hexec : p.tables.exec = Jvm.exec) (hb : c.code = cc) (hl : l.stackTraces = false) {own cls text : String} {names : List String} {ik is ic mc ms sa : Nat} {A : Nat → Prop}
    (hown : s.vm.findClass own = some m.cls) (hcls : Bundle.fit cls = true) (hnames : ∀ n ∈ names, Bundle.fit n = true)
    (hk : (Cond.classLink own ik cls).before args s = true) (hini : (Cond.initialized cls).before args s = true) (hstr : vk_R own is text sa s) (hat : ∀ w ∈ vx_atS own ic cls names, w.before args s = true)
    (hgood : ∀ w ∈ Cond.classLink own ik cls :: Cond.initialized cls :: vx_atS own ic cls names, vx_ot w = true)
    (hU : vx_Zq Bundle.tN "UNASSIGNED_STACK" Bundle.steD A s s.heap) (hN : vx_Zq Bundle.tN "SUPPRESSED_SENTINEL" Bundle.listD A s s.heap) (hS : va_S A s.heap H locs) (hsize : ls.size = c.maxLocals)
    (d0 : decode cc pc = .ok (.new ik, 3)) (d3 : decode cc (pc + 3) = .ok (.dup, 1)) (d4 : decode cc (pc + 4) = .ok (.ldc is, 2)) (d6 : decode cc (pc + 6) = .ok (.invokespecial ic, 3)) (d9 : decode cc (pc + 9) = .ok (.athrow, 1))
    (hout : ∀ x ∈ c.exceptionTable.toList, covers x (pc + 9) = false)
    (hRframes : names.length + 3 < R.frames) (hRlocals : (rest.map fun v => v.category).sum + (13 * (names.length + 1) + 43) ≤ R.locals) (hRcells : cells + 1 ≤ R.cells) (hRslots : slots + 6 ≤ R.slots) (hlocks : meth.locks = false)
    (hx : ∀ t : State, s.vm.Alike t.vm → H.size ≤ t.heap.size → (∀ q : Nat, q < H.size → t.heap[q]? = H[q]?) → XC cls s t)
    (hf : ∀ z ∈ locs, free z.base) (hc : cells + 1 ≤ mc) (hs : slots + 6 ≤ ms) :
    W p l e R s m args below meth c H locs cells slots (vx_MQ below Qc XC args s mc ms free) (F0 m pc ls rest) := by
  intro T hT X
  have htr : e.platform.stackTraces = false := (show e.platform.stackTraces = l.stackTraces by rw [X.admits.platform]).trans hl
  have Y := vx_rebase X (R' := { frames := R.frames, locals := R.locals, cells := 1, slots := 6 }) (Nat.le_refl _) (Nat.le_refl _) hRcells hRslots
  obtain ⟨s', hA⟩ : ∃ z, z = (T.setVm s.vm).setFrames (.invoking m args :: below) := ⟨_, rfl⟩
  rw [← hA] at Y
  have hvm : s'.vm = s.vm := by rw [hA]; rfl
  have hhp : s'.heap = H := by rw [hA]; exact hT
  have hW0 : s.WarmedH s'.vm := by rw [hvm]; exact State.WarmedH.refl s
  have hat' : ∀ w ∈ vx_atS own ic cls names, w.before args s' = true := fun w hw => vx_ot_at hW0 hvm.symm (hgood w (List.mem_cons_of_mem _ (List.mem_cons_of_mem _ hw))) (hat w hw)
  have hk' : (Cond.classLink own ik cls).before args s' = true := vx_ot_at hW0 hvm.symm (hgood _ List.mem_cons_self) hk
  have hini' : (Cond.initialized cls).before args s' = true := vx_ot_at hW0 hvm.symm (hgood _ (List.mem_cons_of_mem _ List.mem_cons_self)) hini
  have hU' : vx_Zq Bundle.tN "UNASSIGNED_STACK" Bundle.steD A s' s'.heap := by rw [hhp]; exact vx_Zq.moved hW0.alike (hU.kept hS.2.1)
  have hN' : vx_Zq Bundle.tN "SUPPRESSED_SENTINEL" Bundle.listD A s' s'.heap := by rw [hhp]; exact vx_Zq.moved hW0.alike (hN.kept hS.2.1)
  have h : ∀ w ∈ Bundle.ownAtoms own ic cls names, w.before args s' = true := vx_own hat' (vx_isRefq hU'.1) (vx_isRefq hN'.1) hU'.2.word hN'.2.word
  have hown' : s'.vm.findClass own = some m.cls := by rw [hvm]; exact hown
  have hins : (Cond.instantiable cls 6).before args s' = true := h _ (by simp [Bundle.ownAtoms])
  obtain ⟨vm₁, cX, kX, hfX, hkX, -, -, X₁, st1⟩ := Y.newCold hexec (own := own) (C := cls) (index := ik) (n := 6) hown' hk' hins hini'
    (g := F0 m pc ls rest) rfl (by rw [hb]; exact d0) (Nat.le_refl _) (Nat.le_refl _)
  generalize hT1 : (T.setVm vm₁).pushCell { cls := cX, slots := kX.instanceTypes.map defaultValue, vm := .none } = T1 at X₁ st1
  have hcat : (Value.ref T.heap.size).category = 1 := rfl
  have hcellA : T1.heap[T.heap.size]? = some (freshCell cX kX) := by rw [← hT1]; exact State.heap_pushCell_size _ _
  have d3' : decode c.code (pc + 3) = .ok (.dup, 1) := by rw [hb]; exact d3
  have d4' : decode c.code (pc + 4) = .ok (.ldc is, 2) := by rw [hb]; exact d4
  have hstr' : vk_R own is text sa s' := vk_R.warm hW0 hstr
  obtain ⟨U, hsteps, hrun, hend, hW, hsame, ce, hce, hO⟩ := X₁.ctorThrowS hexec htr (own := own) (cls := cls) (names := names) (ic := ic) hown' hcls hnames h (fun x hx => nomatch hx) hfX hkX hcellA (by rw [hhp, hT]; exact Nat.le_refl _) (msg := .ref sa) rfl
    (g := { method := m, pc := pc + 6, locals := ls, stack := .ref sa :: .ref T.heap.size :: .ref T.heap.size :: rest, locked := none }) rfl hsize rfl rfl (rest := rest) rfl
    (by rw [hb]; exact d6) (by rw [hb]; exact d9) hout hRframes (by simp only [List.map_cons, List.sum_cons, hcat]; omega) hlocks
  obtain ⟨f1, f2⟩ := vx_frame hsame
  rw [hhp] at f1 f2
  have hWs : s.WarmedH U.vm := State.WarmedH.trans hW0 hW
  have hcl : s.vm.findClass cls = some ce.cls := by
    have h9 := hO.cls
    rw [hvm] at h9
    exact h9
  have hall : s.sameButNew ({ U with vm := s.vm } : State) locs mc ms := by
    subst hA
    obtain ⟨e1, e2⟩ := hsame
    rw [State.setFrames_setFrames] at e1
    have h2 : (T.setVm s.vm).sameButNew ({ U with vm := s.vm } : State) [] (0 + 1) (0 + 6) := ⟨e1, e2⟩
    have h3 := X.same.trans h2
    rw [List.append_nil] at h3
    exact h3.mono hc hs
  refine ⟨U, ?_, .threw T.heap.size, hrun, hend, Or.inr ⟨T.heap.size, rfl, cls, ce, locs, hx U hWs.alike f1 (fun q hq => f2 q hq (fun z hz => nomatch hz)), hce, hO.vm, hcl, hWs, hall, hf⟩⟩
  refine st1 _ ?_
  show Steps p.tables e below (T1.setTop { method := m, pc := pc + 3, locals := ls, stack := .ref T.heap.size :: rest, locked := none }) _
  jvm_step X₁.here [X₁.here.top, hexec, d3', Value.category]
  exact X₁.ldcString hexec (own := own) (text := text) (index := is) (a := sa) hown' hstr'.1 hstr'.2
    (g := { method := m, pc := pc + 4, locals := ls, stack := .ref T.heap.size :: .ref T.heap.size :: rest, locked := none }) rfl d4' _ hsteps
/-- 'throw new E("text")', the text by a wide index -/
theorem vx_throwSW {cc : ByteArray} {pc : Nat} (hexec : p.tables.exec = Jvm.exec) (hb : c.code = cc) (hl : l.stackTraces = false) {own cls text : String} {names : List String} {ik is ic mc ms sa : Nat} {A : Nat → Prop}
    (hown : s.vm.findClass own = some m.cls) (hcls : Bundle.fit cls = true) (hnames : ∀ n ∈ names, Bundle.fit n = true)
    (hk : (Cond.classLink own ik cls).before args s = true) (hini : (Cond.initialized cls).before args s = true) (hstr : vk_R own is text sa s) (hat : ∀ w ∈ vx_atS own ic cls names, w.before args s = true)
    (hgood : ∀ w ∈ Cond.classLink own ik cls :: Cond.initialized cls :: vx_atS own ic cls names, vx_ot w = true)
    (hU : vx_Zq Bundle.tN "UNASSIGNED_STACK" Bundle.steD A s s.heap) (hN : vx_Zq Bundle.tN "SUPPRESSED_SENTINEL" Bundle.listD A s s.heap) (hS : va_S A s.heap H locs) (hsize : ls.size = c.maxLocals)
    (d0 : decode cc pc = .ok (.new ik, 3)) (d3 : decode cc (pc + 3) = .ok (.dup, 1)) (d4 : decode cc (pc + 4) = .ok (.ldc_w is, 3)) (d7 : decode cc (pc + 7) = .ok (.invokespecial ic, 3)) (d10 : decode cc (pc + 10) = .ok (.athrow, 1))
    (hout : ∀ x ∈ c.exceptionTable.toList, covers x (pc + 10) = false)
    (hRframes : names.length + 3 < R.frames) (hRlocals : (rest.map fun v => v.category).sum + (13 * (names.length + 1) + 43) ≤ R.locals) (hRcells : cells + 1 ≤ R.cells) (hRslots : slots + 6 ≤ R.slots) (hlocks : meth.locks = false)
    (hx : ∀ t : State, s.vm.Alike t.vm → H.size ≤ t.heap.size → (∀ q : Nat, q < H.size → t.heap[q]? = H[q]?) → XC cls s t)
    (hf : ∀ z ∈ locs, free z.base) (hc : cells + 1 ≤ mc) (hs : slots + 6 ≤ ms) :
    W p l e R s m args below meth c H locs cells slots (vx_MQ below Qc XC args s mc ms free) (F0 m pc ls rest) := by
  intro T hT X
  have htr : e.platform.stackTraces = false := (show e.platform.stackTraces = l.stackTraces by rw [X.admits.platform]).trans hl
  have Y := vx_rebase X (R' := { frames := R.frames, locals := R.locals, cells := 1, slots := 6 }) (Nat.le_refl _) (Nat.le_refl _) hRcells hRslots
  obtain ⟨s', hA⟩ : ∃ z, z = (T.setVm s.vm).setFrames (.invoking m args :: below) := ⟨_, rfl⟩
  rw [← hA] at Y
  have hvm : s'.vm = s.vm := by rw [hA]; rfl
  have hhp : s'.heap = H := by rw [hA]; exact hT
  have hW0 : s.WarmedH s'.vm := by rw [hvm]; exact State.WarmedH.refl s
  have hat' : ∀ w ∈ vx_atS own ic cls names, w.before args s' = true := fun w hw => vx_ot_at hW0 hvm.symm (hgood w (List.mem_cons_of_mem _ (List.mem_cons_of_mem _ hw))) (hat w hw)
  have hk' : (Cond.classLink own ik cls).before args s' = true := vx_ot_at hW0 hvm.symm (hgood _ List.mem_cons_self) hk
  have hini' : (Cond.initialized cls).before args s' = true := vx_ot_at hW0 hvm.symm (hgood _ (List.mem_cons_of_mem _ List.mem_cons_self)) hini
  have hU' : vx_Zq Bundle.tN "UNASSIGNED_STACK" Bundle.steD A s' s'.heap := by rw [hhp]; exact vx_Zq.moved hW0.alike (hU.kept hS.2.1)
  have hN' : vx_Zq Bundle.tN "SUPPRESSED_SENTINEL" Bundle.listD A s' s'.heap := by rw [hhp]; exact vx_Zq.moved hW0.alike (hN.kept hS.2.1)
  have h : ∀ w ∈ Bundle.ownAtoms own ic cls names, w.before args s' = true := vx_own hat' (vx_isRefq hU'.1) (vx_isRefq hN'.1) hU'.2.word hN'.2.word
  have hown' : s'.vm.findClass own = some m.cls := by rw [hvm]; exact hown
  have hins : (Cond.instantiable cls 6).before args s' = true := h _ (by simp [Bundle.ownAtoms])
  obtain ⟨vm₁, cX, kX, hfX, hkX, -, -, X₁, st1⟩ := Y.newCold hexec (own := own) (C := cls) (index := ik) (n := 6) hown' hk' hins hini'
    (g := F0 m pc ls rest) rfl (by rw [hb]; exact d0) (Nat.le_refl _) (Nat.le_refl _)
  generalize hT1 : (T.setVm vm₁).pushCell { cls := cX, slots := kX.instanceTypes.map defaultValue, vm := .none } = T1 at X₁ st1
  have hcat : (Value.ref T.heap.size).category = 1 := rfl
  have hcellA : T1.heap[T.heap.size]? = some (freshCell cX kX) := by rw [← hT1]; exact State.heap_pushCell_size _ _
  have d3' : decode c.code (pc + 3) = .ok (.dup, 1) := by rw [hb]; exact d3
  have d4' : decode c.code (pc + 4) = .ok (.ldc_w is, 3) := by rw [hb]; exact d4
  have hstr' : vk_R own is text sa s' := vk_R.warm hW0 hstr
  obtain ⟨U, hsteps, hrun, hend, hW, hsame, ce, hce, hO⟩ := X₁.ctorThrowS hexec htr (own := own) (cls := cls) (names := names) (ic := ic) hown' hcls hnames h (fun x hx => nomatch hx) hfX hkX hcellA (by rw [hhp, hT]; exact Nat.le_refl _) (msg := .ref sa) rfl
    (g := { method := m, pc := pc + 7, locals := ls, stack := .ref sa :: .ref T.heap.size :: .ref T.heap.size :: rest, locked := none }) rfl hsize rfl rfl (rest := rest) rfl
    (by rw [hb]; exact d7) (by rw [hb]; exact d10) hout hRframes (by simp only [List.map_cons, List.sum_cons, hcat]; omega) hlocks
  obtain ⟨f1, f2⟩ := vx_frame hsame
  rw [hhp] at f1 f2
  have hWs : s.WarmedH U.vm := State.WarmedH.trans hW0 hW
  have hcl : s.vm.findClass cls = some ce.cls := by
    have h9 := hO.cls
    rw [hvm] at h9
    exact h9
  have hall : s.sameButNew ({ U with vm := s.vm } : State) locs mc ms := by
    subst hA
    obtain ⟨e1, e2⟩ := hsame
    rw [State.setFrames_setFrames] at e1
    have h2 : (T.setVm s.vm).sameButNew ({ U with vm := s.vm } : State) [] (0 + 1) (0 + 6) := ⟨e1, e2⟩
    have h3 := X.same.trans h2
    rw [List.append_nil] at h3
    exact h3.mono hc hs
  refine ⟨U, ?_, .threw T.heap.size, hrun, hend, Or.inr ⟨T.heap.size, rfl, cls, ce, locs, hx U hWs.alike f1 (fun q hq => f2 q hq (fun z hz => nomatch hz)), hce, hO.vm, hcl, hWs, hall, hf⟩⟩
  refine st1 _ ?_
  show Steps p.tables e below (T1.setTop { method := m, pc := pc + 3, locals := ls, stack := .ref T.heap.size :: rest, locked := none }) _
  jvm_step X₁.here [X₁.here.top, hexec, d3', Value.category]
  exact X₁.ldcStringW hexec (own := own) (text := text) (index := is) (a := sa) hown' hstr'.1 hstr'.2
    (g := { method := m, pc := pc + 4, locals := ls, stack := .ref T.heap.size :: .ref T.heap.size :: rest, locked := none }) rfl d4' _ hsteps
end Ends
section Bodies
variable {l : Launch}
theorem vx_ofW {y : MethodName} {ws ws' : List Cond} {rm : Room} {Pc : Array Value → State → Prop} {Qc : Array Value → State → Outcome → State → Prop} {XC : String → State → State → Prop} {mc ms : Nat} {free : Addr → Prop} {cc : ByteArray} {maxL : Nat} {ret : Option FieldType}
    (hy : plainName y.cls = true) (hw : ws = Cond.code y cc maxL ret :: ws')
    (body : ∀ p e s m args below meth c s₁, BodyLoose p l y (headSpec ws rm) cc maxL ret e s m args below meth c s₁ → c.maxLocals = maxL → (∀ x ∈ c.exceptionTable.toList, False) → Pc args s →
      W p l e (headSpec ws rm).room s m args below meth c s.heap [] 0 0 (vx_MQ below Qc XC args s mc ms free) (entryFrame m args maxL)) : vx_Met l y ws rm Pc Qc XC mc ms free := by
  refine MetFree.of_bodyS (code := cc) (maxLocals := maxL) (ret := ret) hy ?_ ?_
  · intro args s m h hn
    obtain ⟨meth, c, h1, h2, h3, h4, h5, h6, -, -⟩ := Cond.code_spec hn (atoms_spec (ws := ws) h _ (by rw [hw]; exact List.mem_cons_self))
    exact ⟨meth, c, h1, h2, h3, h4, h5, h6⟩
  · intro p e s m args below meth c s₁ B hml hP _
    have hh0 : s₁.heap = s.heap := by rw [B.state]; rfl
    have ht : ∀ x ∈ c.exceptionTable.toList, False := by
      obtain ⟨meth9, c9, h1, h2, -, -, -, -, h7, -⟩ := Cond.code_spec B.named (atoms_spec (ws := ws) B.pre _ (by rw [hw]; exact List.mem_cons_self))
      cases Option.some.inj (h1.symm.trans B.method)
      cases Option.some.inj (h2.symm.trans (Stand.of_body B).code)
      intro x hx
      rw [Array.isEmpty_iff.mp h7] at hx
      cases hx
    obtain ⟨t, a1, o, b1, b2, b3⟩ := body p e s m args below meth c s₁ B hml ht hP s₁ hh0 (Stand.of_body B)
    exact ⟨t, o, a1, b1, b2, b3⟩
/-- the table of a body with handlers -/
theorem vx_table {p : Program} {x y : MethodName} {S : Spec} {cc bytes : ByteArray} {maxL maxL' : Nat} {ret ret' : Option FieldType} {e : Env} {s s₁ : State} {m : MethodId} {args : Array Value} {below : List Frame} {meth : Method} {c : Code} {hh : List (Nat × Nat × Nat × Nat)}
    (B : BodyLoose p l y S cc maxL ret e s m args below meth c s₁) (h : (Cond.codeWith y bytes maxL' ret' hh).before args s = true) : c.exceptionTable.toList = tableOf hh := by
  obtain ⟨m9, meth9, c9, hn9, h1, h2, -, -, h6, -⟩ := Cond.codeWith_spec h
  cases Option.some.inj (hn9.symm.trans B.named)
  cases Option.some.inj (h1.symm.trans B.method)
  cases Option.some.inj (h2.symm.trans (Stand.of_body B).code)
  rw [← h6, table_eq]
end Bodies
end VXA
/-! ===== END ===== -/
/-! ===== BEGIN a static call of a method with an exception table ===== -/
section VXS
variable {p : Program} {l : Launch} {e : Env} {R : Room} {s : State} {m : MethodId} {args : Array Value} {below : List Frame} {meth : Method} {c : Code} {T : State} {H : Heap} {locs : List Loc} {cells slots : Nat}
abbrev vx_CSW (R : Room) (s : State) (args : Array Value) (own : String) (index : Nat) (y : MethodName) (bytes : ByteArray) (maxL : Nat) (ret : Option FieldType) (hh : List (Nat × Nat × Nat × Nat)) (ws : List Cond) (rm : Room) (mc ms n : Nat) : Prop :=
  (rm.cells = mc ∧ rm.slots = ms ∧ rm.frames + 1 ≤ R.frames ∧ 8 + (maxL + 11) + rm.locals ≤ R.locals ∧ (∀ w ∈ ws, ∀ (a' : Array Value) (U : State), s.WarmedH U.vm → w.before a' U = true) ∧ Cond.codeWith y bytes maxL ret hh ∈ ws) ∧
  (Cond.codeWith y bytes maxL ret hh).before args s = true ∧ (Cond.initialized y.cls).before args s = true ∧ (y.cls ≠ "java/lang/invoke/MethodHandle" ∧ y.cls ≠ "java/lang/invoke/VarHandle") ∧
  (∀ sig, parseMethodDescriptor y.desc = some sig → n = sig.parameters.length) ∧ (Cond.methodLink own index y).before args s = true ∧ (Cond.static y).before args s = true
theorem vx_cwSW {own : String} {index maxL mc ms : Nat} {y : MethodName} {bytes : ByteArray} {ret : Option FieldType} {hh : List (Nat × Nat × Nat × Nat)} {Ts ws ws' : List Cond} {rm : Room} (n : Nat) (ht : ∀ w ∈ Ts, w.before args s = true) (hT : GoodIn Ts (va_wsS own index y ws)) (hw : ws = Cond.codeWith y bytes maxL ret hh :: ws') (hrc : rm.cells = mc) (hrs : rm.slots = ms)
    (hd : y.cls ≠ "java/lang/invoke/MethodHandle" ∧ y.cls ≠ "java/lang/invoke/VarHandle" ∧ (parseMethodDescriptor y.desc).map (fun d => d.parameters.length) = some n) (hR : rm.frames + 1 ≤ R.frames ∧ 8 + (maxL + 11) + rm.locals ≤ R.locals) :
    vx_CSW R s args own index y bytes maxL ret hh ws rm mc ms n := by
  have ok : ∀ w ∈ va_wsS own index y ws, w.before args s = true := fun w h => ht w (hT w h).1
  have hG : GoodIn Ts ws := fun w h => hT w (by unfold va_wsS; exact List.mem_append_right _ h)
  have hc : Cond.codeWith y bytes maxL ret hh ∈ ws := by rw [hw]; exact List.mem_cons_self
  refine ⟨⟨hrc, hrs, hR.1, hR.2, pay_in ht hG, hc⟩, ht _ (hG _ hc).1, ok _ (by simp [va_wsS]), ⟨hd.1, hd.2.1⟩, fun sig h => ?_, ok _ (by simp [va_wsS]), ok _ (by simp [va_wsS])⟩
  have h2 := hd.2.2
  rw [h] at h2
  exact (Option.some.inj h2).symm
theorem vx_callSW (X : Stand p l e R s m args below meth c T locs cells slots) (hexec : p.tables.exec = Jvm.exec) {own : String} {index : Nat} {y : MethodName} {bytes : ByteArray} {maxL : Nat} {ret : Option FieldType} {hh : List (Nat × Nat × Nat × Nat)}
    (hown : s.vm.findClass own = some m.cls) (hlink : (Cond.methodLink own index y).before args s = true) (hstat : (Cond.static y).before args s = true) (hinit : (Cond.initialized y.cls).before args s = true)
    (hcode : (Cond.codeWith y bytes maxL ret hh).before args s = true) (hy : y.cls ≠ "java/lang/invoke/MethodHandle" ∧ y.cls ≠ "java/lang/invoke/VarHandle")
    {W9 : Nat} {Pre : Pt → Array Value → Prop} {Post : Pt → Array Value → Option Value → Pt → Prop} (hK : Back l R p e below s args y 3 W9 Pre Post)
    {g : JFrame} (hg : g.method = m) (hsize : g.locals.size = c.maxLocals) {argsL rest : List Value} (hlen : ∀ sig, parseMethodDescriptor y.desc = some sig → argsL.length = sig.parameters.length)
    (hstack : g.stack = argsL.reverse ++ rest) (hW : 2 * g.monitorRoom + (rest.map fun v => v.category).sum ≤ W9) (hdg : decode c.code g.pc = .ok (.invokestatic index, 3))
    (hpre : ∀ vm₁, s.WarmedH vm₁ → Pre ⟨T.setVm vm₁, locs, cells, slots⟩ argsL.toArray) :
    ∃ (v : Option Value) (vm₁ : Vm) (B : Pt), s.WarmedH vm₁ ∧ Stand p l e R s m args below meth c B.U B.locs B.cells B.slots ∧ Post ⟨T.setVm vm₁, locs, cells, slots⟩ argsL.toArray v B ∧
      ∀ target, Steps p.tables e below (B.U.setTop { g with pc := g.pc + 3, stack := v.toList ++ rest }) target → Steps p.tables e below (T.setTop g) target := by
  obtain ⟨mk, methM, cM, hnamed, hmethM, -, -, -, -, -, -, hsigM⟩ := Cond.codeWith_spec hcode
  have hstatic : methM.isStatic = true := Cond.static_spec hnamed hmethM hstat
  obtain ⟨kP, hkP, -⟩ := className_of_methodNamed hnamed
  have hinitP : kP.init = .initialized := Cond.initialized_spec (findClass_of_methodNamed hnamed) hkP hinit
  obtain ⟨vm₁, X₁, hstep₁⟩ := X.invokestatic hexec hown hlink hnamed hmethM hstatic hkP hinitP hy (g := g) hg (argsL := argsL) (rest := rest) (hlen _ hsigM) hstack hdg
  obtain ⟨v, B, X', hpost, hsteps⟩ := hK m meth c ⟨T.setVm vm₁, locs, cells, slots⟩ { g with stack := rest } (.invokestatic index) mk argsL.toArray X₁ hg hsize hdg hW (X₁.named hnamed) (hpre vm₁ X₁.warmed)
  exact ⟨v, vm₁, B, X₁.warmed, X', hpost, fun target h => hstep₁ _ fun acts => by rw [doInvoke_state]; exact hsteps.trans h⟩
theorem vx_runSW {y : MethodName} {bytes cc : ByteArray} {maxL nL mc ms n index : Nat} {ret : Option FieldType} {hh : List (Nat × Nat × Nat × Nat)} {ws : List Cond} {rm : Room} {Pc : Array Value → State → Prop} {Qc : Array Value → State → Outcome → State → Prop} {free : Addr → Prop} {Ts : List Cond} {own : String} {As rest : List Value} {g : JFrame}
    (S : CallFix p m c cc nL s args Ts own) (hM : Met l y ws rm Pc Qc mc ms free) (cw : vx_CSW R s args own index y bytes maxL ret hh ws rm mc ms n) (hp : PreS s H Pc As)
    (hg : g.method = m) (hn : As.length = n) (hsize : g.locals.size = nL) (hstack : g.stack = As.reverse ++ rest) (hW : 2 * g.monitorRoom + (rest.map fun v => v.category).sum ≤ 8) (hdg : decode cc g.pc = .ok (.invokestatic index, 3)) (hf : cells + mc ≤ R.cells ∧ slots + ms ≤ R.slots) :
    va_Run p l e R s m args below meth c H locs cells slots mc ms g rest (Qc As.toArray) (free) := by
  obtain ⟨⟨hrc, hrs, hfr, hlo, hws, hcw⟩, hcode, hini, hy, hlen, hl, hstt⟩ := cw
  have hK : Back l R p e below s args y 3 8 (PreOf R mc ms Pc) (PostOf Qc mc ms free) := va_backW (hh := hh) (bytes := bytes) (maxL := maxL) (ret := ret) hM hp.1 hrc hrs hfr hlo hws hcw (fun a' U hW => word_at hW (Or.inl (by first | rfl | simp [Cond.onTables, Cond.keeps, Cond.steady])) hini)
  obtain ⟨hx, hb, hml, ho, -⟩ := S
  intro T hT X
  obtain ⟨v, vm₁, ⟨U', l2, c2, s2⟩, hW₁, X', ⟨g', mk, t, L, e1, e2, hq, h1, hL, h2, h3⟩, st⟩ := vx_callSW X hx (hh := hh) (bytes := bytes) (maxL := maxL) (ret := ret) ho hl hstt hini hcode hy hK hg (hsize.trans hml.symm) (argsL := As) (rest := rest) (fun sig h => hn.trans (hlen sig h)) hstack hW (by rw [hb]; exact hdg)
    (fun vm₁ hW₁ => ⟨hf.1, hf.2, hp.2 (T.setVm vm₁) hT hW₁⟩)
  dsimp only [Pt.U, Pt.locs, Pt.cells, Pt.slots] at X' e1 e2 h1 h2 h3 st
  subst h1; subst h2; subst h3
  exact ⟨v, (T.setVm vm₁).calling g' mk As.toArray, t, U', L, hT, X', hL, e1, e2, hq, st⟩
/-- not caught here, past rows that name other classes: it goes on to the caller -/
theorem vx_outP {p : Program} {l : Launch} {e : Env} {R : Room} {s : State} {m : MethodId} {args : Array Value} {below : List Frame} {meth : Method} {c : Code} {H : Heap} {locs : List Loc} {cells slots : Nat} {free : Addr → Prop} {ls : Array Slot} {rest : List Value} {Qc : Array Value → State → Outcome → State → Prop} {XC : String → State → State → Prop}
    {pc : Nat} {own E : String} {ce : Cell} {q : Addr} {mc ms : Nat} (hown : s.vm.findClass own = some m.cls) (hlocks : meth.locks = false)
    (hpass : ∀ z ∈ c.exceptionTable.toList, covers z pc = false ∨ (z.catchType ≠ 0 ∧ ∃ nm : String, (Cond.classLink own z.catchType nm).before args s = true ∧ va_Nc E nm s)) (hcell : H[q]? = some ce) (hv : ce.vm = .none) (hcl : s.vm.findClass E = some ce.cls)
    (hx : ∀ t : State, t.heap = H → s.vm.Alike t.vm → XC E s t) (hf : ∀ z ∈ locs, free z.base) (hc : cells ≤ mc) (hs : slots ≤ ms) :
    vx_W p l e R s m args below meth c H locs cells slots (vx_MQ below Qc XC args s mc ms free) (F0 m pc ls rest) q := by
  intro T hT X
  have hpl : e.platform.magicAccessors = ({} : Platform).magicAccessors := by rw [X.admits.platform]
  obtain ⟨vm', hW', X', st⟩ := X.outThrough hlocks q (g := F0 m pc ls rest) rfl rfl rfl (cell := ce) (by rw [hT]; exact hcell) (by rw [hv]; rfl)
    (by obtain ⟨k9, h9, -⟩ := Vm.findClass_spec hcl; exact ⟨k9, h9⟩) (fun z hz => by
      rcases hpass z hz with h | ⟨hz0, nm, hl1, hn1⟩
      · exact Or.inl h
      · obtain ⟨c6, hc6, hcl6⟩ := Cond.classLink_spec hown hl1 e.platform hpl
        obtain ⟨a8, b8, h1, h2, h3⟩ := hn1
        cases Option.some.inj (h1.symm.trans hcl)
        cases Option.some.inj (h2.symm.trans hc6)
        exact Or.inr ⟨hz0, _, hcl6, h3⟩)
  obtain ⟨g₀, hfr⟩ := X'.frames_eq
  have hcell9 : ((T.setVm vm').setFrames (.throwing q :: below)).heap[q]? = some ce := by
    show T.heap[q]? = some ce
    rw [hT]; exact hcell
  have hend : Ended ((T.setVm vm').setFrames (.throwing q :: below)) below (.threw q) := State.frames_setFrames _ (State.cur_lt_of_frames hfr)
  refine ⟨(T.setVm vm').setFrames (.throwing q :: below), ?_, .threw q, X'.here.running, hend, Or.inr ⟨q, rfl, E, ce, locs, hx _ hT (X'.ends _).1.alike, hcell9, hv, hcl, (X'.ends _).1, (X'.ends _).2.mono hc hs, hf⟩⟩
  rw [X.pushThrowing_eq]
  exact st
/-- a thing of a world lies in the heap -/
theorem vx_lt {D : va_G} {cl : List vw_C} {ws : va_W} {H1 : Heap} (h : va_P D cl ws H1) {k : Nat} {q : Nat × va_E} (hk : ws[k]? = some q) : q.1 < H1.size := (h k q hk).lt
end VXS
/-! ===== END ===== -/
/-! ===== BEGIN methods with a table of their own: called by a name, returning or throwing ===== -/
section VXH
/-! vx_backW, vx_callVX, vx_callSX, vx_callVW, vx_runVW, vx_runVX, vx_runSX, vx_ofWH follow the same proofs as their sisters above (Free/Laws.lean, Shelf42/LK1.lean); vx_outP calls Shelf42/NT130.lean (outThrough). -/
section
variable {l : Launch} {R : Room} {p : Program} {e : Env} {below : List Frame} {s : State} {sargs : Array Value} {y : MethodName} {len W9 : Nat}
theorem vx_backW {ws : List Cond} {rm : Room} {Pc : Array Value → State → Prop} {Qc : Array Value → State → Outcome → State → Prop} {XC : String → State → State → Prop} {mc ms : Nat} {free : Addr → Prop} {bytes : ByteArray} {maxL : Nat} {ret : Option FieldType} {hh : List (Nat × Nat × Nat × Nat)}
    (hM : vx_Met l y ws rm Pc Qc XC mc ms free) (hblind : FrameBlind Pc) (hrc : rm.cells = mc) (hrs : rm.slots = ms)
    (hframes : rm.frames + 1 ≤ R.frames) (hlocals : W9 + (maxL + 11) + rm.locals ≤ R.locals)
    (hws : ∀ w ∈ ws, ∀ a' U, s.WarmedH U.vm → w.before a' U = true) (hcode : Cond.codeWith y bytes maxL ret hh ∈ ws) (hinit : ∀ a' U, s.WarmedH U.vm → (Cond.initialized y.cls).before a' U = true) :
    vx_Back l R p e below s sargs y len W9 (PreOf R mc ms Pc) (PostOf Qc mc ms free) (vx_Post XC mc ms free) := by
  intro m meth c A g ig mk a X hg hsize hdg hW hn hp
  have h1 : (headSpec ws rm).pre.before a A.U = true := atoms_intro fun w hw => hws w hw _ _ X.warmed
  have h2 : (Cond.codeWith y bytes maxL ret hh).before a A.U = true := hws _ hcode _ _ X.warmed
  have h3 : (Cond.initialized y.cls).before a A.U = true := hinit _ _ X.warmed
  have h4 : A.cells + (headSpec ws rm).room.cells ≤ R.cells := by rw [show (headSpec ws rm).room.cells = mc from hrc]; exact hp.1
  have h5 : A.slots + (headSpec ws rm).room.slots ≤ R.slots := by rw [show (headSpec ws rm).room.slots = ms from hrs]; exact hp.2.1
  have hPc : Pc a (A.U.calling g mk a) := hblind _ _ _ _ hp.2.2
  obtain ⟨U, Ls, c0, s0⟩ := A
  dsimp only [Pt.U, Pt.locs, Pt.cells, Pt.slots] at h1 h2 h3 h4 h5 X hn hPc ⊢
  obtain ⟨m9, methY, cY, hn9, hmY, hcY, -, hlY, -⟩ := Cond.codeWith_spec h2
  cases Option.some.inj (hn9.symm.trans hn)
  obtain ⟨kY, hkY, -⟩ := className_of_methodNamed hn
  have hinitY : kY.init = .initialized := Cond.initialized_spec (findClass_of_methodNamed hn) hkY h3
  have h : At U g.method c below := by rw [hg]; exact X.here
  have hlocals9 : W9 + (maxL + 11) + (headSpec ws rm).room.locals ≤ R.locals := hlocals
  have happ : (headSpec ws rm).appliesLoose y e.platform (U.calling g mk a) = true :=
    Spec.appliesLoose_calling (g := g) h hdg hn hkY hinitY
      (X.room_calling (g := g) (R' := (headSpec ws rm).room) hsize hmY hcY hframes (by rw [hlY]; omega) h4 h5) h1
  obtain ⟨mid, hmid⟩ := h.above
  have hfr : (U.setTop g).frames = (.java g :: mid) ++ below := by rw [State.frames_setTop' g h.top, hmid]; rfl
  obtain ⟨o, s₂, hsteps, -, hend, hq⟩ := Steps.callFree hM p X.admits X.cas X.clock (acts := []) hfr happ hPc trivial
  have hq' : vx_Q Qc XC mc ms free a (U.calling g mk a) o s₂ := hq
  rw [State.frames_setTop' g h.top] at hend
  obtain ⟨g₀, hg0⟩ := Option.isSome_iff_exists.mp h.top
  obtain ⟨r, hr⟩ := State.topJava?_eq_some.mp hg0
  have hr' : (({ U with heap := s₂.heap, slotsUsed := s₂.slotsUsed } : State).setVm s₂.vm).frames = .java g₀ :: r := hr
  rcases hq' with ⟨hqc, L, hfe, hL⟩ | ⟨q, rfl, E, ce, L, hx, hce, hcv, hcl, hW₂, hsm, hL⟩
  · obtain ⟨⟨v, rfl⟩, hW₂, e2, q2, q3, q4, q5, q6⟩ := id hfe
    have e3 : s₂ = ({ (U.calling g mk a).setFrames s₂.frames with heap := s₂.heap, slotsUsed := s₂.slotsUsed } : State).setVm s₂.vm := by
      have : s₂ = ({ s₂ with vm := (U.calling g mk a).vm } : State).setVm s₂.vm := rfl
      rw [e2] at this
      exact this
    obtain ⟨c₂, i₂, len₂, hc₂, hd₂, hf₂⟩ := hend
    have hW' : U.WarmedH s₂.vm := hW₂
    have hcc : c₂ = c := by
      have h1 : s₂.code? g.method = U.code? g.method := by
        rw [State.code?_eq, State.code?_eq, hW'.alike.method?]
      exact Option.some.inj (hc₂.symm.trans (h1.trans h.code))
    subst hcc
    have hlen : len₂ = len := by rw [hdg] at hd₂; cases hd₂; rfl
    subst hlen
    have hs₂ : s₂ = (({ U with heap := s₂.heap, slotsUsed := s₂.slotsUsed } : State).setVm s₂.vm).setTop { g with pc := g.pc + len₂, stack := v.toList ++ g.stack } := by
      refine e3.trans ?_
      rw [hf₂, State.calling_eq h.top, State.setFrames_setFrames, State.setTop_of_frames _ hr', hr]
      rfl
    have hsame : U.sameButNew ({ U with heap := s₂.heap, slotsUsed := s₂.slotsUsed } : State) L mc ms := by
      refine ⟨?_, q2, q3, q4, q5, q6⟩
      obtain ⟨t, ht, -⟩ := State.frames_cons hr
      show ({ U with heap := s₂.heap, slotsUsed := s₂.slotsUsed } : State) = { U.setFrames U.frames with heap := s₂.heap, slotsUsed := s₂.slotsUsed }
      rw [State.setFrames_self ht]
    subst hg
    refine Or.inl ⟨v, ⟨(({ U with heap := s₂.heap, slotsUsed := s₂.slotsUsed } : State).setVm s₂.vm), Ls ++ L, c0 + mc, s0 + ms⟩,
      ⟨X.admits, X.cas, X.clock, X.frames, X.room, X.hears, X.method, X.code, (X.here.setHeapUsed s₂.heap s₂.slotsUsed).setVm hW'.alike, X.tail, State.WarmedH.trans X.warmed hW', X.limits, X.bytes, X.same.trans (hsame.setVm s.vm)⟩,
      ⟨g, mk, s₂, L, rfl, rfl, hqc, rfl, hL, rfl, rfl⟩, ?_⟩
    show Steps p.tables e below _ ((({ U with heap := s₂.heap, slotsUsed := s₂.slotsUsed } : State).setVm s₂.vm).setTop { g with pc := g.pc + len₂, stack := v.toList ++ g.stack })
    rw [← hs₂]
    exact hsteps
  · obtain ⟨e2, q2, q3, q4, q5, q6⟩ := id hsm
    have e3 : s₂ = ({ (U.calling g mk a).setFrames s₂.frames with heap := s₂.heap, slotsUsed := s₂.slotsUsed } : State).setVm s₂.vm := by
      have : s₂ = ({ s₂ with vm := (U.calling g mk a).vm } : State).setVm s₂.vm := rfl
      rw [e2] at this
      exact this
    have hf₂ : s₂.frames = .throwing q :: .java g :: U.frames.tail := hend
    have hW' : U.WarmedH s₂.vm := hW₂
    have hs₂ : s₂ = ((({ U with heap := s₂.heap, slotsUsed := s₂.slotsUsed } : State).setVm s₂.vm).setTop g).pushFrame (.throwing q) := by
      refine e3.trans ?_
      rw [hf₂, State.calling_eq h.top, State.setFrames_setFrames, State.pushFrame, State.frames_setTop _ hr', State.setTop_of_frames _ hr', State.setFrames_setFrames, hr]
      rfl
    have hsame : U.sameButNew ({ U with heap := s₂.heap, slotsUsed := s₂.slotsUsed } : State) L mc ms := by
      refine ⟨?_, q2, q3, q4, q5, q6⟩
      obtain ⟨t, ht, -⟩ := State.frames_cons hr
      show ({ U with heap := s₂.heap, slotsUsed := s₂.slotsUsed } : State) = { U.setFrames U.frames with heap := s₂.heap, slotsUsed := s₂.slotsUsed }
      rw [State.setFrames_self ht]
    subst hg
    refine Or.inr ⟨q, ⟨(({ U with heap := s₂.heap, slotsUsed := s₂.slotsUsed } : State).setVm s₂.vm), Ls ++ L, c0 + mc, s0 + ms⟩,
      ⟨X.admits, X.cas, X.clock, X.frames, X.room, X.hears, X.method, X.code, (X.here.setHeapUsed s₂.heap s₂.slotsUsed).setVm hW'.alike, X.tail, State.WarmedH.trans X.warmed hW', X.limits, X.bytes, X.same.trans (hsame.setVm s.vm)⟩,
      ⟨g, mk, s₂, L, E, ce, rfl, rfl, hx, hce, hcv, hcl, rfl, hL, rfl, rfl⟩, ?_⟩
    show Steps p.tables e below _ (((({ U with heap := s₂.heap, slotsUsed := s₂.slotsUsed } : State).setVm s₂.vm).setTop g).pushFrame (.throwing q))
    rw [← hs₂]
    exact hsteps
end
variable {p : Program} {l : Launch} {e : Env} {R : Room} {s : State} {m : MethodId} {args : Array Value} {below : List Frame} {meth : Method} {c : Code} {T : State} {H : Heap} {locs : List Loc} {cells slots : Nat}
theorem vx_callVX (X : Stand p l e R s m args below meth c T locs cells slots) (hexec : p.tables.exec = Jvm.exec) {own C : String} {index : Nat} {y : MethodName} {bytes : ByteArray} {maxL : Nat} {ret : Option FieldType} {hh : List (Nat × Nat × Nat × Nat)}
    (hown : s.vm.findClass own = some m.cls) (hlink : (Cond.methodLink own index y).before args s = true) (hinst : (Cond.instanceMethod y).before args s = true) (hsel : (Cond.selects C y y).before args s = true)
    (hcode : (Cond.codeWith y bytes maxL ret hh).before args s = true) (hy : y.cls ≠ "java/lang/invoke/MethodHandle" ∧ y.cls ≠ "java/lang/invoke/VarHandle")
    {W9 : Nat} {Pre : Pt → Array Value → Prop} {Post : Pt → Array Value → Option Value → Pt → Prop} {PostX : Pt → Array Value → Addr → Pt → Prop} (hK : vx_Back l R p e below s args y 3 W9 Pre Post PostX)
    {b : Addr} {cellB : Cell} (hcell : T.heap[b]? = some cellB) (hobj : cellB.vm.isStatics = false) (hcls : s.vm.findClass C = some cellB.cls)
    {g : JFrame} (hg : g.method = m) (hsize : g.locals.size = c.maxLocals) {argsL rest : List Value} (hlen : ∀ sig, parseMethodDescriptor y.desc = some sig → argsL.length = sig.parameters.length)
    (hstack : g.stack = argsL.reverse ++ .ref b :: rest) (hW : 2 * g.monitorRoom + (rest.map fun v => v.category).sum ≤ W9) (hdg : decode c.code g.pc = .ok (.invokevirtual index, 3))
    (hpre : ∀ vm₁, s.WarmedH vm₁ → Pre ⟨T.setVm vm₁, locs, cells, slots⟩ (Value.ref b :: argsL).toArray) :
    (∃ (v : Option Value) (vm₁ : Vm) (B : Pt), s.WarmedH vm₁ ∧ Stand p l e R s m args below meth c B.U B.locs B.cells B.slots ∧ Post ⟨T.setVm vm₁, locs, cells, slots⟩ (Value.ref b :: argsL).toArray v B ∧
      ∀ target, Steps p.tables e below (B.U.setTop { g with pc := g.pc + 3, stack := v.toList ++ rest }) target → Steps p.tables e below (T.setTop g) target) ∨
    (∃ (q : Addr) (vm₁ : Vm) (B : Pt), s.WarmedH vm₁ ∧ Stand p l e R s m args below meth c B.U B.locs B.cells B.slots ∧ PostX ⟨T.setVm vm₁, locs, cells, slots⟩ (Value.ref b :: argsL).toArray q B ∧
      Steps p.tables e below (T.setTop g) ((B.U.setTop { g with stack := rest }).pushFrame (.throwing q))) := by
  obtain ⟨mk, methM, hnamed, hmethM, hstM, habM⟩ := Cond.instanceMethod_spec hinst
  obtain ⟨m8, methM', cM, hn8, hmethM', -, -, -, -, -, -, hsigM⟩ := Cond.codeWith_spec hcode
  cases Option.some.inj (hn8.symm.trans hnamed)
  cases hmethM.symm.trans hmethM'
  obtain ⟨c2, r2, m2, q1, q2, q3, q4, kP, hkP, hkPi⟩ := Cond.selects_spec hsel
  cases hcls.symm.trans q1
  cases (State.methodFound?_of_named hnamed hy).symm.trans q2
  cases hnamed.symm.trans q3
  have hselP : selectMethod e.platform s.vm cellB.cls mk = .method mk := by rw [Launch.admits_selectMethod X.admits]; exact q4
  obtain ⟨vm₁, X₁, hstep₁⟩ := X.invokevirtual hexec hown hlink hnamed hmethM hstM hkP hkPi hy (a := b) (cell := cellB) hcell
    (fun z h => by rw [h] at hobj; cases hobj) hselP hmethM habM hkP hkPi (g := g) hg (argsL := argsL) (rest := rest) (hlen _ hsigM) hstack hdg
  rcases hK m meth c ⟨T.setVm vm₁, locs, cells, slots⟩ { g with stack := rest } (.invokevirtual index) mk (Value.ref b :: argsL).toArray X₁ hg hsize hdg hW (X₁.named hnamed) (hpre vm₁ X₁.warmed) with ⟨v, B, X', hpost, hsteps⟩ | ⟨q, B, X', hpost, hsteps⟩
  · exact Or.inl ⟨v, vm₁, B, X₁.warmed, X', hpost, fun target h => hstep₁ _ fun acts => by rw [doInvoke_state]; exact hsteps.trans h⟩
  · exact Or.inr ⟨q, vm₁, B, X₁.warmed, X', hpost, hstep₁ _ fun acts => by rw [doInvoke_state]; exact hsteps⟩
theorem vx_callSX (X : Stand p l e R s m args below meth c T locs cells slots) (hexec : p.tables.exec = Jvm.exec) {own : String} {index : Nat} {y : MethodName} {bytes : ByteArray} {maxL : Nat} {ret : Option FieldType} {hh : List (Nat × Nat × Nat × Nat)}
    (hown : s.vm.findClass own = some m.cls) (hlink : (Cond.methodLink own index y).before args s = true) (hstat : (Cond.static y).before args s = true) (hinit : (Cond.initialized y.cls).before args s = true)
    (hcode : (Cond.codeWith y bytes maxL ret hh).before args s = true) (hy : y.cls ≠ "java/lang/invoke/MethodHandle" ∧ y.cls ≠ "java/lang/invoke/VarHandle")
    {W9 : Nat} {Pre : Pt → Array Value → Prop} {Post : Pt → Array Value → Option Value → Pt → Prop} {PostX : Pt → Array Value → Addr → Pt → Prop} (hK : vx_Back l R p e below s args y 3 W9 Pre Post PostX)
    {g : JFrame} (hg : g.method = m) (hsize : g.locals.size = c.maxLocals) {argsL rest : List Value} (hlen : ∀ sig, parseMethodDescriptor y.desc = some sig → argsL.length = sig.parameters.length)
    (hstack : g.stack = argsL.reverse ++ rest) (hW : 2 * g.monitorRoom + (rest.map fun v => v.category).sum ≤ W9) (hdg : decode c.code g.pc = .ok (.invokestatic index, 3))
    (hpre : ∀ vm₁, s.WarmedH vm₁ → Pre ⟨T.setVm vm₁, locs, cells, slots⟩ argsL.toArray) :
    (∃ (v : Option Value) (vm₁ : Vm) (B : Pt), s.WarmedH vm₁ ∧ Stand p l e R s m args below meth c B.U B.locs B.cells B.slots ∧ Post ⟨T.setVm vm₁, locs, cells, slots⟩ argsL.toArray v B ∧
      ∀ target, Steps p.tables e below (B.U.setTop { g with pc := g.pc + 3, stack := v.toList ++ rest }) target → Steps p.tables e below (T.setTop g) target) ∨
    (∃ (q : Addr) (vm₁ : Vm) (B : Pt), s.WarmedH vm₁ ∧ Stand p l e R s m args below meth c B.U B.locs B.cells B.slots ∧ PostX ⟨T.setVm vm₁, locs, cells, slots⟩ argsL.toArray q B ∧
      Steps p.tables e below (T.setTop g) ((B.U.setTop { g with stack := rest }).pushFrame (.throwing q))) := by
  obtain ⟨mk, methM, cM, hnamed, hmethM, -, -, -, -, -, -, hsigM⟩ := Cond.codeWith_spec hcode
  have hstatic : methM.isStatic = true := Cond.static_spec hnamed hmethM hstat
  obtain ⟨kP, hkP, -⟩ := className_of_methodNamed hnamed
  have hinitP : kP.init = .initialized := Cond.initialized_spec (findClass_of_methodNamed hnamed) hkP hinit
  obtain ⟨vm₁, X₁, hstep₁⟩ := X.invokestatic hexec hown hlink hnamed hmethM hstatic hkP hinitP hy (g := g) hg (argsL := argsL) (rest := rest) (hlen _ hsigM) hstack hdg
  rcases hK m meth c ⟨T.setVm vm₁, locs, cells, slots⟩ { g with stack := rest } (.invokestatic index) mk argsL.toArray X₁ hg hsize hdg hW (X₁.named hnamed) (hpre vm₁ X₁.warmed) with ⟨v, B, X', hpost, hsteps⟩ | ⟨q, B, X', hpost, hsteps⟩
  · exact Or.inl ⟨v, vm₁, B, X₁.warmed, X', hpost, fun target h => hstep₁ _ fun acts => by rw [doInvoke_state]; exact hsteps.trans h⟩
  · exact Or.inr ⟨q, vm₁, B, X₁.warmed, X', hpost, hstep₁ _ fun acts => by rw [doInvoke_state]; exact hsteps⟩
theorem vx_callVW (X : Stand p l e R s m args below meth c T locs cells slots) (hexec : p.tables.exec = Jvm.exec) {own C : String} {index : Nat} {y : MethodName} {bytes : ByteArray} {maxL : Nat} {ret : Option FieldType} {hh : List (Nat × Nat × Nat × Nat)}
    (hown : s.vm.findClass own = some m.cls) (hlink : (Cond.methodLink own index y).before args s = true) (hinst : (Cond.instanceMethod y).before args s = true) (hsel : (Cond.selects C y y).before args s = true)
    (hcode : (Cond.codeWith y bytes maxL ret hh).before args s = true) (hy : y.cls ≠ "java/lang/invoke/MethodHandle" ∧ y.cls ≠ "java/lang/invoke/VarHandle")
    {W9 : Nat} {Pre : Pt → Array Value → Prop} {Post : Pt → Array Value → Option Value → Pt → Prop} (hK : Back l R p e below s args y 3 W9 Pre Post)
    {b : Addr} {cellB : Cell} (hcell : T.heap[b]? = some cellB) (hobj : cellB.vm.isStatics = false) (hcls : s.vm.findClass C = some cellB.cls)
    {g : JFrame} (hg : g.method = m) (hsize : g.locals.size = c.maxLocals) {argsL rest : List Value} (hlen : ∀ sig, parseMethodDescriptor y.desc = some sig → argsL.length = sig.parameters.length)
    (hstack : g.stack = argsL.reverse ++ .ref b :: rest) (hW : 2 * g.monitorRoom + (rest.map fun v => v.category).sum ≤ W9) (hdg : decode c.code g.pc = .ok (.invokevirtual index, 3))
    (hpre : ∀ vm₁, s.WarmedH vm₁ → Pre ⟨T.setVm vm₁, locs, cells, slots⟩ (Value.ref b :: argsL).toArray) :
    ∃ (v : Option Value) (vm₁ : Vm) (B : Pt), s.WarmedH vm₁ ∧ Stand p l e R s m args below meth c B.U B.locs B.cells B.slots ∧ Post ⟨T.setVm vm₁, locs, cells, slots⟩ (Value.ref b :: argsL).toArray v B ∧
      ∀ target, Steps p.tables e below (B.U.setTop { g with pc := g.pc + 3, stack := v.toList ++ rest }) target → Steps p.tables e below (T.setTop g) target := by
  obtain ⟨mk, methM, hnamed, hmethM, hstM, habM⟩ := Cond.instanceMethod_spec hinst
  obtain ⟨m8, methM', cM, hn8, hmethM', -, -, -, -, -, -, hsigM⟩ := Cond.codeWith_spec hcode
  cases Option.some.inj (hn8.symm.trans hnamed)
  cases hmethM.symm.trans hmethM'
  obtain ⟨c2, r2, m2, q1, q2, q3, q4, kP, hkP, hkPi⟩ := Cond.selects_spec hsel
  cases hcls.symm.trans q1
  cases (State.methodFound?_of_named hnamed hy).symm.trans q2
  cases hnamed.symm.trans q3
  have hselP : selectMethod e.platform s.vm cellB.cls mk = .method mk := by rw [Launch.admits_selectMethod X.admits]; exact q4
  obtain ⟨vm₁, X₁, hstep₁⟩ := X.invokevirtual hexec hown hlink hnamed hmethM hstM hkP hkPi hy (a := b) (cell := cellB) hcell
    (fun z h => by rw [h] at hobj; cases hobj) hselP hmethM habM hkP hkPi (g := g) hg (argsL := argsL) (rest := rest) (hlen _ hsigM) hstack hdg
  obtain ⟨v, B, X', hpost, hsteps⟩ := hK m meth c ⟨T.setVm vm₁, locs, cells, slots⟩ { g with stack := rest } (.invokevirtual index) mk (Value.ref b :: argsL).toArray X₁ hg hsize hdg hW (X₁.named hnamed) (hpre vm₁ X₁.warmed)
  exact ⟨v, vm₁, B, X₁.warmed, X', hpost, fun target h => hstep₁ _ fun acts => by rw [doInvoke_state]; exact hsteps.trans h⟩
abbrev vx_CVW (R : Room) (s : State) (args : Array Value) (own C : String) (index : Nat) (y : MethodName) (bytes : ByteArray) (maxL : Nat) (ret : Option FieldType) (hh : List (Nat × Nat × Nat × Nat)) (ws : List Cond) (rm : Room) (mc ms n : Nat) : Prop :=
  (rm.cells = mc ∧ rm.slots = ms ∧ rm.frames + 1 ≤ R.frames ∧ 8 + (maxL + 11) + rm.locals ≤ R.locals ∧ (∀ w ∈ ws, ∀ (a' : Array Value) (U : State), s.WarmedH U.vm → w.before a' U = true) ∧ Cond.codeWith y bytes maxL ret hh ∈ ws) ∧
  (Cond.codeWith y bytes maxL ret hh).before args s = true ∧ (Cond.initialized y.cls).before args s = true ∧ (y.cls ≠ "java/lang/invoke/MethodHandle" ∧ y.cls ≠ "java/lang/invoke/VarHandle") ∧
  (∀ sig, parseMethodDescriptor y.desc = some sig → n = sig.parameters.length) ∧ (Cond.methodLink own index y).before args s = true ∧ (Cond.instanceMethod y).before args s = true ∧ (Cond.selects C y y).before args s = true
theorem vx_cwVW {own C : String} {index maxL mc ms : Nat} {y : MethodName} {bytes : ByteArray} {ret : Option FieldType} {hh : List (Nat × Nat × Nat × Nat)} {Ts ws ws' : List Cond} {rm : Room} (n : Nat) (ht : ∀ w ∈ Ts, w.before args s = true) (hT : GoodIn Ts (wsV own index C y ws)) (hw : ws = Cond.codeWith y bytes maxL ret hh :: ws') (hrc : rm.cells = mc) (hrs : rm.slots = ms)
    (hd : y.cls = C ∧ y.cls ≠ "java/lang/invoke/MethodHandle" ∧ y.cls ≠ "java/lang/invoke/VarHandle" ∧ (parseMethodDescriptor y.desc).map (fun d => d.parameters.length) = some n) (hR : rm.frames + 1 ≤ R.frames ∧ 8 + (maxL + 11) + rm.locals ≤ R.locals) :
    vx_CVW R s args own C index y bytes maxL ret hh ws rm mc ms n := by
  obtain ⟨hC, hd⟩ := hd
  subst hC
  have ok : ∀ w ∈ wsV own index y.cls y ws, w.before args s = true := fun w h => ht w (hT w h).1
  have hG : GoodIn Ts ws := fun w h => hT w (by unfold wsV; exact List.mem_append_right _ h)
  have hc : Cond.codeWith y bytes maxL ret hh ∈ ws := by rw [hw]; exact List.mem_cons_self
  refine ⟨⟨hrc, hrs, hR.1, hR.2, pay_in ht hG, hc⟩, ht _ (hG _ hc).1, ok _ (by simp [wsV]), ⟨hd.1, hd.2.1⟩, fun sig h => ?_, ok _ (by simp [wsV]), ok _ (by simp [wsV]), ok _ (by simp [wsV])⟩
  have h2 := hd.2.2
  rw [h] at h2
  exact (Option.some.inj h2).symm
theorem vx_runVW {y : MethodName} {bytes cc : ByteArray} {maxL nL mc ms n index : Nat} {ret : Option FieldType} {hh : List (Nat × Nat × Nat × Nat)} {ws : List Cond} {rm : Room} {Pc : Array Value → State → Prop} {Qc : Array Value → State → Outcome → State → Prop} {free : Addr → Prop} {Ts : List Cond} {own C : String} {b : Addr} {As rest : List Value} {g : JFrame}
    (S : CallFix p m c cc nL s args Ts own) (hM : Met l y ws rm Pc Qc mc ms free) (cw : vx_CVW R s args own C index y bytes maxL ret hh ws rm mc ms n) (hp : PreV s H C b Pc As)
    (hg : g.method = m) (hn : As.length = n) (hsize : g.locals.size = nL) (hstack : g.stack = As.reverse ++ .ref b :: rest) (hW : 2 * g.monitorRoom + (rest.map fun v => v.category).sum ≤ 8) (hdg : decode cc g.pc = .ok (.invokevirtual index, 3)) (hf : cells + mc ≤ R.cells ∧ slots + ms ≤ R.slots) :
    va_Run p l e R s m args below meth c H locs cells slots mc ms g rest (Qc (Value.ref b :: As).toArray) free := by
  obtain ⟨⟨hrc, hrs, hfr, hlo, hws, hcw⟩, hcode, hini, hy, hlen, hl, hin, hse⟩ := cw
  have hK : Back l R p e below s args y 3 8 (PreOf R mc ms Pc) (PostOf Qc mc ms free) := va_backW (hh := hh) (bytes := bytes) (maxL := maxL) (ret := ret) hM hp.1 hrc hrs hfr hlo hws hcw (fun a' U hW => word_at hW (Or.inl (by first | rfl | simp [Cond.onTables, Cond.keeps, Cond.steady])) hini)
  obtain ⟨hx, hb, hml, ho, -⟩ := S
  obtain ⟨-, ⟨cellB, hcB, hoB, hclB⟩, hPc⟩ := hp
  intro T hT X
  obtain ⟨v, vm₁, ⟨U', l2, c2, s2⟩, hW₁, X', ⟨g', mk, t, L, e1, e2, hq, h1, hL, h2, h3⟩, st⟩ := vx_callVW X hx (C := C) (hh := hh) (bytes := bytes) (maxL := maxL) (ret := ret) ho hl hin hse hcode hy hK (by rw [hT]; exact hcB) hoB hclB hg (hsize.trans hml.symm) (argsL := As) (rest := rest) (fun sig h => hn.trans (hlen sig h)) hstack hW (by rw [hb]; exact hdg)
    (fun vm₁ hW₁ => ⟨hf.1, hf.2, hPc (T.setVm vm₁) hT hW₁⟩)
  dsimp only [Pt.U, Pt.locs, Pt.cells, Pt.slots] at X' e1 e2 h1 h2 h3 st
  subst h1; subst h2; subst h3
  exact ⟨v, (T.setVm vm₁).calling g' mk (Value.ref b :: As).toArray, t, U', L, hT, X', hL, e1, e2, hq, st⟩
section
variable {y : MethodName} {bytes cc : ByteArray} {maxL nL mc ms n index : Nat} {ret : Option FieldType} {ws : List Cond} {rm : Room} {Pc : Array Value → State → Prop} {Qc : Array Value → State → Outcome → State → Prop} {XC : String → State → State → Prop} {free : Addr → Prop} {Ts : List Cond} {own C : String} {b : Addr} {As rest : List Value} {g : JFrame}
theorem vx_runVX {hh : List (Nat × Nat × Nat × Nat)} (S : CallFix p m c cc nL s args Ts own) (hM : vx_Met l y ws rm Pc Qc XC mc ms free) (cw : vx_CVW R s args own C index y bytes maxL ret hh ws rm mc ms n) (hp : PreV s H C b Pc As)
    (hg : g.method = m) (hn : As.length = n) (hsize : g.locals.size = nL) (hstack : g.stack = As.reverse ++ .ref b :: rest) (hW : 2 * g.monitorRoom + (rest.map fun v => v.category).sum ≤ 8) (hdg : decode cc g.pc = .ok (.invokevirtual index, 3)) (hf : cells + mc ≤ R.cells ∧ slots + ms ≤ R.slots) :
    vx_Run p l e R s m args below meth c H locs cells slots mc ms g rest (Qc (Value.ref b :: As).toArray) XC free := by
  obtain ⟨⟨hrc, hrs, hfr, hlo, hws, hcw⟩, hcode, hini, hy, hlen, hl, hin, hse⟩ := cw
  have hK : vx_Back l R p e below s args y 3 8 (PreOf R mc ms Pc) (PostOf Qc mc ms free) (vx_Post XC mc ms free) := vx_backW (hh := hh) (bytes := bytes) (maxL := maxL) (ret := ret) hM hp.1 hrc hrs hfr hlo hws hcw (fun a' U hW => word_at hW (Or.inl (by first | rfl | simp [Cond.onTables, Cond.keeps, Cond.steady])) hini)
  obtain ⟨hx, hb, hml, ho, -⟩ := S
  obtain ⟨-, ⟨cellB, hcB, hoB, hclB⟩, hPc⟩ := hp
  intro T hT X
  rcases vx_callVX X hx (C := C) (hh := hh) (bytes := bytes) (maxL := maxL) (ret := ret) ho hl hin hse hcode hy hK (by rw [hT]; exact hcB) hoB hclB hg (hsize.trans hml.symm) (argsL := As) (rest := rest) (fun sig h => hn.trans (hlen sig h)) hstack hW (by rw [hb]; exact hdg)
    (fun vm₁ hW₁ => ⟨hf.1, hf.2, hPc (T.setVm vm₁) hT hW₁⟩) with ⟨v, vm₁, ⟨U', l2, c2, s2⟩, hW₁, X', ⟨g', mk, t, L, e1, e2, hq, h1, hL, h2, h3⟩, st⟩ | ⟨q, vm₁, ⟨U', l2, c2, s2⟩, hW₁, X', ⟨g', mk, t, L, E, ce, e1, e2, hq, hce, hcv, hcl, h1, hL, h2, h3⟩, st⟩
  · dsimp only [Pt.U, Pt.locs, Pt.cells, Pt.slots] at X' e1 e2 h1 h2 h3 st
    subst h1; subst h2; subst h3
    exact Or.inl ⟨v, (T.setVm vm₁).calling g' mk (Value.ref b :: As).toArray, t, U', L, hT, X', hL, e1, e2, hq, st⟩
  · dsimp only [Pt.U, Pt.locs, Pt.cells, Pt.slots] at X' e1 e2 h1 h2 h3 st hcl
    subst h1; subst h2; subst h3
    exact Or.inr ⟨q, (T.setVm vm₁).calling g' mk (Value.ref b :: As).toArray, t, U', L, E, ce, hT, X', hL, e1, e2, hq, hce, hcv, vx_cls hW₁ hcl, st⟩
theorem vx_runSX {hh : List (Nat × Nat × Nat × Nat)} (S : CallFix p m c cc nL s args Ts own) (hM : vx_Met l y ws rm Pc Qc XC mc ms free) (cw : vx_CSW R s args own index y bytes maxL ret hh ws rm mc ms n) (hp : PreS s H Pc As)
    (hg : g.method = m) (hn : As.length = n) (hsize : g.locals.size = nL) (hstack : g.stack = As.reverse ++ rest) (hW : 2 * g.monitorRoom + (rest.map fun v => v.category).sum ≤ 8) (hdg : decode cc g.pc = .ok (.invokestatic index, 3)) (hf : cells + mc ≤ R.cells ∧ slots + ms ≤ R.slots) :
    vx_Run p l e R s m args below meth c H locs cells slots mc ms g rest (Qc As.toArray) XC free := by
  obtain ⟨⟨hrc, hrs, hfr, hlo, hws, hcw⟩, hcode, hini, hy, hlen, hl, hstt⟩ := cw
  have hK : vx_Back l R p e below s args y 3 8 (PreOf R mc ms Pc) (PostOf Qc mc ms free) (vx_Post XC mc ms free) := vx_backW (hh := hh) (bytes := bytes) (maxL := maxL) (ret := ret) hM hp.1 hrc hrs hfr hlo hws hcw (fun a' U hW => word_at hW (Or.inl (by first | rfl | simp [Cond.onTables, Cond.keeps, Cond.steady])) hini)
  obtain ⟨hx, hb, hml, ho, -⟩ := S
  intro T hT X
  rcases vx_callSX X hx (hh := hh) (bytes := bytes) (maxL := maxL) (ret := ret) ho hl hstt hini hcode hy hK hg (hsize.trans hml.symm) (argsL := As) (rest := rest) (fun sig h => hn.trans (hlen sig h)) hstack hW (by rw [hb]; exact hdg)
    (fun vm₁ hW₁ => ⟨hf.1, hf.2, hp.2 (T.setVm vm₁) hT hW₁⟩) with ⟨v, vm₁, ⟨U', l2, c2, s2⟩, hW₁, X', ⟨g', mk, t, L, e1, e2, hq, h1, hL, h2, h3⟩, st⟩ | ⟨q, vm₁, ⟨U', l2, c2, s2⟩, hW₁, X', ⟨g', mk, t, L, E, ce, e1, e2, hq, hce, hcv, hcl, h1, hL, h2, h3⟩, st⟩
  · dsimp only [Pt.U, Pt.locs, Pt.cells, Pt.slots] at X' e1 e2 h1 h2 h3 st
    subst h1; subst h2; subst h3
    exact Or.inl ⟨v, (T.setVm vm₁).calling g' mk As.toArray, t, U', L, hT, X', hL, e1, e2, hq, st⟩
  · dsimp only [Pt.U, Pt.locs, Pt.cells, Pt.slots] at X' e1 e2 h1 h2 h3 st hcl
    subst h1; subst h2; subst h3
    exact Or.inr ⟨q, (T.setVm vm₁).calling g' mk As.toArray, t, U', L, E, ce, hT, X', hL, e1, e2, hq, hce, hcv, vx_cls hW₁ hcl, st⟩
end
end VXH
theorem vx_ofWH {l : Launch} {y : MethodName} {ws ws' : List Cond} {rm : Room} {Pc : Array Value → State → Prop} {Qc : Array Value → State → Outcome → State → Prop} {XC : String → State → State → Prop} {mc ms : Nat} {free : Addr → Prop} {cc : ByteArray} {maxL : Nat} {ret : Option FieldType} {hh : List (Nat × Nat × Nat × Nat)}
    (hy : plainName y.cls = true) (hw : ws = Cond.codeWith y cc maxL ret hh :: ws')
    (body : ∀ p e s m args below meth c s₁, BodyLoose p l y (headSpec ws rm) cc maxL ret e s m args below meth c s₁ → c.maxLocals = maxL → Pc args s →
      W p l e (headSpec ws rm).room s m args below meth c s.heap [] 0 0 (vx_MQ below Qc XC args s mc ms free) (entryFrame m args maxL)) : vx_Met l y ws rm Pc Qc XC mc ms free := by
  refine MetFree.of_bodyS (code := cc) (maxLocals := maxL) (ret := ret) hy ?_ ?_
  · intro args s m h hn
    obtain ⟨m9, meth, c, hn9, h1, h2, h3, h4, -, h5, h6, -⟩ := Cond.codeWith_spec (atoms_spec (ws := ws) h _ (by rw [hw]; exact List.mem_cons_self))
    cases hn.symm.trans hn9
    exact ⟨meth, c, h1, h2, h3, h4, h5, h6⟩
  · intro p e s m args below meth c s₁ B hml hP _
    have hh0 : s₁.heap = s.heap := by rw [B.state]; rfl
    obtain ⟨t, a1, o, b1, b2, b3⟩ := body p e s m args below meth c s₁ B hml hP s₁ hh0 (Stand.of_body B)
    exact ⟨t, o, a1, b1, b2, b3⟩
/-! ===== END ===== -/

/-! ===== BEGIN what the machine throws by itself, no traces kept ===== -/
section VXM
set_option maxHeartbeats 1000000 in
/-- the machine throws cls with the message text, no traces kept: from its note over the frame g to 'throwing' over the same frame (follows the proofs of Stand.vmThrowsMessage, Shelf/KitTracedVmS.lean, and Stand.throwsMessageColdBareV, StandMessageColdV.lean, without the step out of the frame) -/
theorem vx_vmAt {p : Program} {l : Launch} {e : Env} {R : Room} {s : State} {m₀ : MethodId} {args : Array Value} {below : List Frame} {meth : Method} {c : Code} {W : State} {locs : List Loc} {cells slots : Nat}
    (X : Stand p l e R s m₀ args below meth c W locs cells slots) (hexec : p.tables.exec = Jvm.exec) (htr : e.platform.stackTraces = false) {cls : String} {names : List String} {text : String}
    (hcls : Bundle.fit cls = true) (hnames : ∀ n ∈ names, Bundle.fit n = true) (hsoe : (cls == "java/lang/StackOverflowError") = false) (hoom : (cls == "java/lang/OutOfMemoryError") = false)
    (h : ∀ a ∈ Bundle.messageArmAtoms cls names, a.before args s = true)
    (hlocs : ∀ x ∈ locs, ∀ cell, s.heap[x.base]? = some cell → cell.vm.isStatics = false)
    (htext : (text == notModelled) = false) (hlimit : ¬ (stringBytes (stringToUtf16 text)).size > e.platform.arrayLengthLimit) (hheap : ¬ (stringBytes (stringToUtf16 text)).size * componentBytes .byte > e.platform.maxHeapBytes)
    {g : JFrame} (hg : g.method = m₀) (hsize : g.locals.size = c.maxLocals)
    (hRframes : names.length + 4 < R.frames) (hRlocals : 2 * g.monitorRoom + (g.stack.map fun v => v.category).sum + 10240 ≤ R.locals) (hshort : 13 * names.length + 55 ≤ 10240)
    (hRcells : cells + 3 ≤ R.cells) (hRslots : slots + ((stringBytes (stringToUtf16 text)).size + 4 + 6) ≤ R.slots) (hlocks : meth.locks = false) :
    ∃ (S : State) (q : Addr) (ce : Cell), (∀ target, Steps p.tables e below ((S.setTop g).pushFrame (.throwing q)) target → Steps p.tables e below ((W.setTop g).pushFrame (.throwNew cls (some text) none)) target) ∧
      Stand p l e R s m₀ args below meth c S locs (cells + 3) (slots + ((stringBytes (stringToUtf16 text)).size + 4 + 6)) ∧ S.heap[q]? = some ce ∧ s.vm.findClass cls = some ce.cls ∧ ce.vm = .none := by
  have howns : e.platform.frameOwnsMonitors = true := by rw [X.admits.platform]
  have hfin : e.platform.finalization = false := by rw [X.admits.platform]
  have hpl : e.platform.magicAccessors = ({} : Platform).magicAccessors := by rw [X.admits.platform]
  have a : ∀ x, x ∈ Bundle.messageArmAtoms cls names → x.holds args s none s [] = true := fun x hx => h x hx
  obtain ⟨T, Z0, L, -, Y⟩ := ThrowableC.of_atoms (args := args) howns hfin hpl (fun x hx => h x (by simp [Bundle.messageArmAtoms, hx]))
  obtain ⟨Z, M, LZ, LM, hnZ⟩ := Init0T.ofS_atoms (args := args) hpl L Y (fun x hx => h x (by simp [Bundle.messageArmAtoms, hx]))
  obtain ⟨P1, Ps, hlen, L1, hL, hP1m, hlink1, hlink⟩ := Bundle.chainS (args := args) hpl hnZ names cls hcls hnames (fun x hx => h x (by simp [Bundle.messageArmAtoms, hx]))
  obtain ⟨Zs, LZs, hn4, hfitv, hfitc⟩ := StringT.of_atoms (args := args) (fun x hx => h x (by simp [Bundle.messageArmAtoms, hx]))
  have hfound : s.vm.findClass cls = some P1.m.cls := findClass_of_methodNamed hP1m
  obtain ⟨c1, kX, hc1, hk, hord, -, -, hn6⟩ := Cond.instantiable_spec (a (.instantiable cls 6) (by simp [Bundle.messageArmAtoms]))
  cases Option.some.inj (hc1.symm.trans hfound)
  have hinit := Cond.initialized_spec hfound hk (a (.initialized cls) (by simp [Bundle.messageArmAtoms]))
  have hctor : kX.findMethod "<init>" "(Ljava/lang/String;)V" = some P1.m.idx := findMethod_of_methodNamed hP1m hk
  have hsel0 : selectMethod e.platform s.vm P1.m.cls T.fill0 = .method T.fill0 := by
    obtain ⟨c2, r2, m2, q1, q2, q3, q4, -⟩ := Cond.selects_spec (a (.selects cls Bundle.tFill0 Bundle.tFill0) (by simp [Bundle.messageArmAtoms]))
    cases Option.some.inj (q1.symm.trans hfound)
    cases Option.some.inj (q2.symm.trans (State.methodFound?_of_named Y.fill0 (by decide)))
    cases Option.some.inj (q3.symm.trans Y.fill0)
    rw [Launch.admits_selectMethod X.admits]; exact q4
  have hselF : selectMethod e.platform s.vm P1.m.cls T.fill = .method T.fill := by
    obtain ⟨c2, r2, m2, q1, q2, q3, q4, -⟩ := Cond.selects_spec (a (.selects cls Bundle.tFill Bundle.tFill) (by simp [Bundle.messageArmAtoms]))
    cases Option.some.inj (q1.symm.trans hfound)
    cases Option.some.inj (q2.symm.trans (State.methodFound?_of_named Y.fill (by decide)))
    cases Option.some.inj (q3.symm.trans Y.fill)
    rw [Launch.admits_selectMethod X.admits]; exact q4
  obtain ⟨cellS0, hcS0, hiss⟩ := Y.statics
  obtain ⟨u0, hu0⟩ := Cond.staticRefV Y.unassigned L.unassignedStatic L.statics hcS0 hiss (a (.isRef (.static Bundle.tN "UNASSIGNED_STACK" Bundle.steD)) (by simp [Bundle.messageArmAtoms]))
  obtain ⟨sen, hsen⟩ := Cond.staticRefV Y.sentinel L.sentinelStatic L.statics hcS0 hiss (a (.isRef (.static Bundle.tN "SUPPRESSED_SENTINEL" Bundle.listD)) (by simp [Bundle.messageArmAtoms]))
  obtain ⟨ci198, i198, fB, hk198, hg198, ha198, hsB, -, hnB, htB, hffB⟩ := Cond.ownField (t := .object "java/lang/Object") Y.found L.cls (by decide +kernel) (a (.fieldLink Bundle.tN 198 Bundle.tN "backtrace" "Ljava/lang/Object;") (by simp [Bundle.messageArmAtoms])) (a (.lays Bundle.tN Bundle.tN "backtrace" "Ljava/lang/Object;") (by simp [Bundle.messageArmAtoms])) e.platform hpl
  obtain ⟨cellS, hcS', heS, -, hkeep⟩ := X.same.2.2.2.2.2 T.aS cellS0 hcS0
  have hcellS : W.heap[T.aS]? = some cellS := hcS'
  have hout' : ∀ i, (⟨T.aS, i⟩ : Loc) ∉ locs := fun i hmem => by
    have := hlocs _ hmem cellS0 hcS0
    rw [hiss] at this; cases this
  have hknownS : cellS.vm ≠ .unknown := by
    rw [heS]; intro hu
    rw [show cellS0.vm = .unknown from hu] at hiss
    cases hiss
  have hvU : cellS.slots[T.fUnassigned.slot]? = some u0.v := by rw [hkeep _ (hout' _)]; exact hu0
  have hvSen : cellS.slots[T.fSentinel.slot]? = some sen.v := by rw [hkeep _ (hout' _)]; exact hsen
  obtain ⟨iM, hffM⟩ := Y.msg
  obtain ⟨tyC, dC, hdC, hdnC⟩ := Cond.laysAt hfound hk Y.cause (a (.lays cls Bundle.tN "cause" "Ljava/lang/Throwable;") (by simp [Bundle.messageArmAtoms]))
  obtain ⟨tyS, dS, hdS, hdnS⟩ := Cond.laysAt hfound hk Y.stack (a (.lays cls Bundle.tN "stackTrace" Bundle.steD) (by simp [Bundle.messageArmAtoms]))
  obtain ⟨tyP, dP, hdP, hdnP⟩ := Cond.laysAt hfound hk Y.supp (a (.lays cls Bundle.tN "suppressedExceptions" Bundle.listD) (by simp [Bundle.messageArmAtoms]))
  obtain ⟨tyM, dM, hdM, hdnM⟩ := Cond.laysAt hfound hk hffM (a (.lays cls Bundle.tN "detailMessage" "Ljava/lang/String;") (by simp [Bundle.messageArmAtoms]))
  obtain ⟨tyB, dB, hdB, hdnB⟩ := Cond.laysAt hfound hk hffB (a (.lays cls Bundle.tN "backtrace" "Ljava/lang/Object;") (by simp [Bundle.messageArmAtoms]))
  have bC := Cond.laysApart hdB hdC hdnB hdnC (by rw [hnB, Y.causeName]; decide)
  have bS := Cond.laysApart hdB hdS hdnB hdnS (by rw [hnB, Y.stackName]; decide)
  have bP := Cond.laysApart hdB hdP hdnB hdnP (by rw [hnB, Y.suppName]; decide)
  have hbk : ((preparedCellV T.toThrowableT (freshCell P1.m.cls kX) (W.heap.size + 2) u0 sen).withEntry W.cur).slots[fB.slot]? = some .null := by
    have := fresh_default (c := P1.m.cls) tyB
    rw [htB] at this
    simpa [preparedCellV, Cell.setSlot, Cell.withEntry, Array.getElem?_setIfInBounds, bC, bS, bP, bC.symm, bS.symm, bP.symm, defaultValue] using this
  have tkC := Takes.of_laid (v := .ref (W.heap.size + 2)) hk hord tyC (by rw [Y.causeType]; rfl)
  have tkS := Takes.of_laid (v := u0.v) hk hord tyS (by rw [Y.stackType]; exact fits_refV_array _ u0)
  have tkP := Takes.of_laid (v := sen.v) hk hord tyP (by rw [Y.suppType]; exact fits_refV_object _ sen)
  have tkM := Takes.of_laid (v := .ref (W.heap.size + 1)) hk hord tyM (by rw [Y.msgType]; rfl)
  have hskip : SkipFacts T e.platform s (fun u => u) u0 ((preparedCellV T.toThrowableT (freshCell P1.m.cls kX) (W.heap.size + 2) u0 sen).withEntry W.cur) := ⟨{ ci198 := ci198, i198 := i198, fBack := fB }, ⟨hk198, hg198, ha198, hsB⟩, hbk, fun _ _ => rfl⟩
  have h0 : At W g.method c below := by rw [hg]; exact X.here
  obtain ⟨hbeyond, hfreeW⟩ := X.vmMayThrow hsize (.throwNew cls (some text) none) (fun f hf => by cases hf) rfl hRlocals
  have hfr' : W.frames.length + Ps.length + 4 < (e.platform.stackLimits W.me).1 := by have := X.framesAbove hRframes; omega
  have hwd' : (stackUse (.java g :: W.frames.tail)).2 + 13 * Ps.length + 55 ≤ (e.platform.stackLimits W.me).2 := by have := X.stackAbove hsize (K := 13 * Ps.length + 55) (by omega); omega
  have hslots : W.slotsUsed + (stringBytes (stringToUtf16 text)).size + Zs.kS.instanceTypes.size + kX.instanceTypes.size ≤ e.platform.maxSlots := by
    have := X.slotsAbove hRslots
    rw [hn4, hn6]
    omega
  obtain ⟨vm', hW', st⟩ := Steps.vmThrowsMessageColdByV p (s₀ := s) (S := W) (g := g) h0 hexec T L Z LZ M LM X.warmed (t := W.cur) rfl Zs LZs P1 L1 Ps hL hlink1 hlink hsoe hoom hfound hk hinit hord hctor
    (Launch.admits_hotImplicitExceptions X.admits) hbeyond hfreeW htext hlimit hheap (X.cellsAbove hRcells) hslots (hfitv _) (hfitc _)
    (Nn := fun u => u) heapOnly_id (fun _ _ => rfl) (fun _ => rfl) (fun u x y => setCell_twice _ _ _ _) (fun _ => Nat.le_refl _) (cN := ((preparedCellV T.toThrowableT (freshCell P1.m.cls kX) (W.heap.size + 2) u0 sen).withEntry W.cur))
    hsel0 hcellS hknownS hvU tkS (fun _ hu => hu) (fun _ hu => hu) rfl rfl rfl (by simp [preparedCellV, Cell.setSlot, Cell.withEntry]) hskip (fun _ _ hA hW _ hroom _ hrest => L.nativeOff p htr hA hW hroom hrest) hselF hvSen tkC tkP tkM Y.objLocals rfl hfr' hwd'
  rw [plainBareV_eq T.toThrowableT (W.heap.size + 2) u0 sen (.ref (W.heap.size + 1)) W.cur rfl rfl] at st
  obtain ⟨-, -, w3, w4, -, -, -⟩ := withThrown_facts e.platform W Zs text P1.m.cls kX
  have X3 := ((X.pushed (bytesOf Zs.cB (stringToUtf16 text))).pushed (stringAt Zs.cS Zs.kS Zs.fv Zs.fc (stringToUtf16 text) W.heap.size)).pushed (freshCell P1.m.cls kX)
  rw [← withString_eq] at X3
  have X4 := X3.noted hW'
  have ha : (W.heap.size + 2) < ((withThrown W Zs text P1.m.cls kX).setVm vm').heap.size := by show _ < (withThrown W Zs text P1.m.cls kX).heap.size; rw [w3]; omega
  have hcell : ((withThrown W Zs text P1.m.cls kX).setVm vm').heap[(W.heap.size + 2)]? = some (freshCell P1.m.cls kX) := w4
  have X5 := ((((X4.stored hcell T.fCause.slot (.ref (W.heap.size + 2))).storedAgain ha T.fStack.slot u0.v).storedAgain ha T.fSupp.slot sen.v).storedAgain ha T.fStack.slot u0.v).storedAgain ha T.fMsg.slot (.ref (W.heap.size + 1))
  obtain ⟨g₁, hfrM⟩ := X5.frames_eq
  have hU : ((((withThrown W Zs text P1.m.cls kX).setVm vm').setCell (W.heap.size + 2) (plainBareV T.toThrowableT (freshCell P1.m.cls kX) (W.heap.size + 2) u0 sen (.ref (W.heap.size + 1)))).setTop g).pushFrame (.throwing (W.heap.size + 2)) = (((withThrown W Zs text P1.m.cls kX).setVm vm').setCell (W.heap.size + 2) (plainBareV T.toThrowableT (freshCell P1.m.cls kX) (W.heap.size + 2) u0 sen (.ref (W.heap.size + 1)))).setFrames (.throwing (W.heap.size + 2) :: .java g :: below) := by
    rw [State.pushFrame, State.frames_setTop _ hfrM, State.setTop_of_frames _ hfrM, State.setFrames_setFrames]
  have b1 : (bytesOf Zs.cB (stringToUtf16 text)).slots.size = (stringBytes (stringToUtf16 text)).size := by
    rw [(Cell.writeAll_facts _ _).2.2]; simp [bytes0]
  have b2 : (stringAt Zs.cS Zs.kS Zs.fv Zs.fc (stringToUtf16 text) W.heap.size).slots.size = 4 := by simp [string0, Cell.setSlot, hn4]
  have b3 : (freshCell P1.m.cls kX).slots.size = 6 := by simp [hn6]
  rw [b1, b2, b3] at X5
  have e9 : slots + (stringBytes (stringToUtf16 text)).size + 4 + 6 = slots + ((stringBytes (stringToUtf16 text)).size + 4 + 6) := by omega
  rw [e9] at X5
  simp only [List.append_assoc, List.cons_append, List.nil_append] at X5
  refine ⟨((withThrown W Zs text P1.m.cls kX).setVm vm').setCell (W.heap.size + 2) (plainBareV T.toThrowableT (freshCell P1.m.cls kX) (W.heap.size + 2) u0 sen (.ref (W.heap.size + 1))), W.heap.size + 2, _, fun target ht => st _ (by rw [X.tail, ← hU]; exact ht),
    X5.forget (fun y hy => ?_), heapAt_setCell_self _ ha, hfound, rfl⟩
  simp only [List.mem_cons, List.not_mem_nil, or_false] at hy
  have hge : s.heap.size ≤ W.heap.size := X.same.2.1
  rcases hy with rfl | rfl | rfl | rfl | rfl <;> exact Nat.le_trans hge (Nat.le_add_right _ 2)
set_option maxHeartbeats 1000000 in
/-- the machine throws NullPointerException, no traces kept: from its note over the frame g to 'throwing' over the same frame (follows the proof of Stand.vmThrowsNpe, Shelf42/KT2.lean; throwsNpeColdBareVAt, Shelf42/NT91.lean, called) -/
theorem vx_npeAt {p : Program} {l : Launch} {e : Env} {R : Room} {s : State} {m₀ : MethodId} {args : Array Value} {below : List Frame} {meth : Method} {c : Code} {W : State} {locs : List Loc} {cells slots : Nat}
    (X : Stand p l e R s m₀ args below meth c W locs cells slots) (hexec : p.tables.exec = Jvm.exec) (htr : e.platform.stackTraces = false) {n : Nat}
    (h : ∀ a ∈ Bundle.npeArmAtoms n, a.before args s = true)
    (hlocs : ∀ x ∈ locs, ∀ cell, s.heap[x.base]? = some cell → cell.vm.isStatics = false)
    {g : JFrame} (hg : g.method = m₀) (hsize : g.locals.size = c.maxLocals)
    (hRframes : 7 < R.frames) (hRlocals : 2 * g.monitorRoom + (g.stack.map fun v => v.category).sum + 10240 ≤ R.locals)
    (hRcells : cells + 1 ≤ R.cells) (hRslots : slots + n ≤ R.slots) (hlocks : meth.locks = false) :
    ∃ (S : State) (q : Addr) (ce : Cell), (∀ target, Steps p.tables e below ((S.setTop g).pushFrame (.throwing q)) target → Steps p.tables e below ((W.setTop g).pushFrame (.throwNew "java/lang/NullPointerException" none none)) target) ∧
      Stand p l e R s m₀ args below meth c S locs (cells + 1) (slots + n) ∧ S.heap[q]? = some ce ∧ s.vm.findClass "java/lang/NullPointerException" = some ce.cls ∧ ce.vm = .none := by
  have howns : e.platform.frameOwnsMonitors = true := by rw [X.admits.platform]
  have hfin : e.platform.finalization = false := by rw [X.admits.platform]
  have hpl : e.platform.magicAccessors = ({} : Platform).magicAccessors := by rw [X.admits.platform]
  have hpl2 : e.platform.arrayCloneIsPublic = true := by rw [X.admits.platform]
  have a' : ∀ x, x ∈ Bundle.npeArmAtoms n → x.holds args s none s [] = true := fun x hx => h x hx
  obtain ⟨T, Z, L, LZ, Y⟩ := ThrowableC.of_atoms (args := args) howns hfin hpl (fun x hx => h x (by simp [Bundle.npeArmAtoms, hx]))
  obtain ⟨N, LN, hcN, hnNF, hordN, hffS⟩ := NpeC.of_atoms (args := args) hpl hpl2 L Y (fun x hx => h x (by simp [Bundle.npeArmAtoms, hx]))
  obtain ⟨P1, L1, hP1m, hP1s⟩ := PassC.of_atoms (args := args) (s := s) hpl (X := Bundle.nN) (Y := Bundle.rN) (by decide) (by decide) LibCode.NullPointerException.Init0.at_0 LibCode.NullPointerException.Init0.at_1 LibCode.NullPointerException.Init0.at_4 (fun x hx => h x (by simp [Bundle.npeArmAtoms, hx]))
  obtain ⟨PR, LR, hPRm, hPRs⟩ := PassC.of_atoms (args := args) (s := s) hpl (X := Bundle.rN) (Y := Bundle.eN) (by decide) (by decide) LibCode.RuntimeException.Init0.at_0 LibCode.RuntimeException.Init0.at_1 LibCode.RuntimeException.Init0.at_4 (fun x hx => h x (by simp [Bundle.npeArmAtoms, hx]))
  obtain ⟨PE, LEx, hPEm, hPEs⟩ := PassC.of_atoms (args := args) (s := s) hpl (X := Bundle.eN) (Y := Bundle.tN) (by decide) (by decide) LibCode.Exception.Init0.at_0 LibCode.Exception.Init0.at_1 LibCode.Exception.Init0.at_4 (fun x hx => h x (by simp [Bundle.npeArmAtoms, hx]))
  have hfound : s.vm.findClass Bundle.nN = some P1.m.cls := findClass_of_methodNamed hP1m
  have ecls : N.cN = P1.m.cls := Option.some.inj (hcN.symm.trans hfound)
  have hk : s.vm.classes[P1.m.cls]? = some N.kN := by rw [← ecls]; exact LN.cls
  have hinit := Cond.initialized_spec hfound hk (a' (.initialized Bundle.nN) (by simp [Bundle.npeArmAtoms]))
  have hctor : N.kN.findMethod "<init>" "()V" = some P1.m.idx := findMethod_of_methodNamed hP1m hk
  obtain ⟨c1, k1, hc1, hk1, -, -, -, hn⟩ := Cond.instantiable_spec (a' (.instantiable Bundle.nN n) (by simp [Bundle.npeArmAtoms]))
  cases Option.some.inj (hc1.symm.trans hfound)
  cases Option.some.inj (hk1.symm.trans hk)
  have hfsz : (freshCell P1.m.cls N.kN).slots.size = n := by simp [hn]
  have hlink1 : P1.sup = PR.m := Option.some.inj (hP1s.symm.trans hPRm)
  have hlinkR : PR.sup = PE.m := Option.some.inj (hPRs.symm.trans hPEm)
  have hlinkE : PE.sup = Z.m T.toThrowableT := Option.some.inj (hPEs.symm.trans Y.init0)
  have hLs : ∀ P, P ∈ [PR, PE] → P.Links0 e.platform s := fun P hP => by
    simp only [List.mem_cons, List.not_mem_nil, or_false] at hP
    rcases hP with rfl | rfl
    · exact LR
    · exact LEx
  have hsel0 : selectMethod e.platform s.vm P1.m.cls T.fill0 = .method T.fill0 := by
    obtain ⟨c2, r2, m2, q1, q2, q3, q4, -⟩ := Cond.selects_spec (a' (.selects Bundle.nN Bundle.tFill0 Bundle.tFill0) (by simp [Bundle.npeArmAtoms]))
    cases Option.some.inj (q1.symm.trans hfound)
    cases Option.some.inj (q2.symm.trans (State.methodFound?_of_named Y.fill0 (by decide)))
    cases Option.some.inj (q3.symm.trans Y.fill0)
    rw [Launch.admits_selectMethod X.admits]; exact q4
  have hselF : selectMethod e.platform s.vm P1.m.cls T.fill = .method N.fill := by
    obtain ⟨c2, r2, m2, q1, q2, q3, q4, -⟩ := Cond.selects_spec (a' (.selects Bundle.nN Bundle.tFill Bundle.nFill) (by simp [Bundle.npeArmAtoms]))
    cases Option.some.inj (q1.symm.trans hfound)
    cases Option.some.inj (q2.symm.trans (State.methodFound?_of_named Y.fill (by decide)))
    cases Option.some.inj (q3.symm.trans hnNF)
    rw [Launch.admits_selectMethod X.admits]; exact q4
  obtain ⟨cellS0, hcS0, hiss⟩ := Y.statics
  obtain ⟨u0, hu0⟩ := Cond.staticRefV Y.unassigned L.unassignedStatic L.statics hcS0 hiss (a' (.isRef (.static Bundle.tN "UNASSIGNED_STACK" Bundle.steD)) (by simp [Bundle.npeArmAtoms]))
  obtain ⟨sen, hsen⟩ := Cond.staticRefV Y.sentinel L.sentinelStatic L.statics hcS0 hiss (a' (.isRef (.static Bundle.tN "SUPPRESSED_SENTINEL" Bundle.listD)) (by simp [Bundle.npeArmAtoms]))
  obtain ⟨ci198, i198, fB, hk198, hg198, ha198, hsB, -, hnB, htB, hffB⟩ := Cond.ownField (t := .object "java/lang/Object") Y.found L.cls (by decide +kernel) (a' (.fieldLink Bundle.tN 198 Bundle.tN "backtrace" Bundle.objD) (by simp [Bundle.npeArmAtoms])) (a' (.lays Bundle.tN Bundle.tN "backtrace" Bundle.objD) (by simp [Bundle.npeArmAtoms])) e.platform hpl
  obtain ⟨cellS, hcS', heS, -, hkeep⟩ := X.same.2.2.2.2.2 T.aS cellS0 hcS0
  have hcellS : W.heap[T.aS]? = some cellS := hcS'
  have hout' : ∀ i, (⟨T.aS, i⟩ : Loc) ∉ locs := fun i hmem => by
    have := hlocs _ hmem cellS0 hcS0
    rw [hiss] at this; cases this
  have hknownS : cellS.vm ≠ .unknown := by
    rw [heS]; intro hu
    rw [show cellS0.vm = .unknown from hu] at hiss
    cases hiss
  have hvU : cellS.slots[T.fUnassigned.slot]? = some u0.v := by rw [hkeep _ (hout' _)]; exact hu0
  have hvSen : cellS.slots[T.fSentinel.slot]? = some sen.v := by rw [hkeep _ (hout' _)]; exact hsen
  obtain ⟨tyC, dC, hdC, hdnC⟩ := Cond.laysAt hfound hk Y.cause (a' (.lays Bundle.nN Bundle.tN "cause" "Ljava/lang/Throwable;") (by simp [Bundle.npeArmAtoms]))
  obtain ⟨tyS, dS, hdS, hdnS⟩ := Cond.laysAt hfound hk Y.stack (a' (.lays Bundle.nN Bundle.tN "stackTrace" Bundle.steD) (by simp [Bundle.npeArmAtoms]))
  obtain ⟨tyP, dP, hdP, hdnP⟩ := Cond.laysAt hfound hk Y.supp (a' (.lays Bundle.nN Bundle.tN "suppressedExceptions" Bundle.listD) (by simp [Bundle.npeArmAtoms]))
  obtain ⟨tyX, dX, hdX, hdnX⟩ := Cond.laysAt hfound hk hffS (a' (.lays Bundle.nN Bundle.nN "extendedMessageState" "I") (by simp [Bundle.npeArmAtoms, Bundle.npeAtoms]))
  obtain ⟨hnX, htX⟩ := State.fieldFound?_type hffS (t := .int) (by decide +kernel)
  have xC := Cond.laysApart hdC hdX hdnC hdnX (by rw [hnX, Y.causeName]; decide)
  have xS := Cond.laysApart hdS hdX hdnS hdnX (by rw [hnX, Y.stackName]; decide)
  have xP := Cond.laysApart hdP hdX hdnP hdnX (by rw [hnX, Y.suppName]; decide)
  have hv0 : (freshCell P1.m.cls N.kN).slots[N.fState.slot]? = some (.int 0) := by
    have := fresh_default (c := P1.m.cls) tyX
    rw [htX] at this; exact this
  obtain ⟨tyB, dB, hdB, hdnB⟩ := Cond.laysAt hfound hk hffB (a' (.lays Bundle.nN Bundle.tN "backtrace" Bundle.objD) (by simp [Bundle.npeArmAtoms]))
  have bC := Cond.laysApart hdB hdC hdnB hdnC (by rw [hnB, Y.causeName]; decide)
  have bS := Cond.laysApart hdB hdS hdnB hdnS (by rw [hnB, Y.stackName]; decide)
  have bP := Cond.laysApart hdB hdP hdnB hdnP (by rw [hnB, Y.suppName]; decide)
  have bX := Cond.laysApart hdB hdX hdnB hdnX (by rw [hnB, hnX]; decide)
  have hbk : ((npeCell N.toNpeT (preparedCellV T.toThrowableT (freshCell P1.m.cls N.kN) W.heap.size u0 sen) W.cur).withEntry W.cur).slots[fB.slot]? = some .null := by
    have := fresh_default (c := P1.m.cls) tyB
    rw [htB] at this
    simpa [npeCell, preparedCellV, Cell.setSlot, Cell.withEntry, Array.getElem?_setIfInBounds, bC, bS, bP, bX, bC.symm, bS.symm, bP.symm, bX.symm, defaultValue] using this
  have tkC := Takes.of_laid (v := .ref W.heap.size) hk hordN tyC (by rw [Y.causeType]; rfl)
  have tkS := Takes.of_laid (v := u0.v) hk hordN tyS (by rw [Y.stackType]; exact fits_refV_array _ u0)
  have tkP := Takes.of_laid (v := sen.v) hk hordN tyP (by rw [Y.suppType]; exact fits_refV_object _ sen)
  have tkX := Takes.of_laid (v := .int 1) hk hordN tyX (by rw [htX]; rfl)
  have hskip : SkipFacts T e.platform s (fun u => u) u0 ((npeCell N.toNpeT (preparedCellV T.toThrowableT (freshCell P1.m.cls N.kN) W.heap.size u0 sen) W.cur).withEntry W.cur) := ⟨{ ci198 := ci198, i198 := i198, fBack := fB }, ⟨hk198, hg198, ha198, hsB⟩, hbk, fun _ _ => rfl⟩
  obtain ⟨vm', X3, st, -⟩ := X.throwsNpeColdBareVAt hexec hg hsize T L Z LZ N LN P1 L1 [PR, PE] hLs hlink1 ⟨hlinkR, hlinkE, trivial⟩ hfound hk hinit hordN hctor hsel0 hselF hcellS hknownS hvU hvSen
    hv0 xC xS xP tkC tkS tkP tkX Y.objLocals hskip (fun _ _ hA hW _ hroom _ hrest => L.nativeOff p htr hA hW hroom hrest) (by simpa using hRframes) hRlocals (by simp) hRcells (by rw [hn]; exact hRslots)
  have hlt : W.heap.size < ((W.pushCell (freshCell P1.m.cls N.kN)).setVm vm').heap.size := by
    show W.heap.size < (W.pushCell (freshCell P1.m.cls N.kN)).heap.size
    rw [State.heap_size_pushCell]; omega
  rw [hfsz] at X3
  obtain ⟨g₁, hfrM⟩ := X3.frames_eq
  have hU : ((((W.pushCell (freshCell P1.m.cls N.kN)).setVm vm').setCell W.heap.size (npeBareV T.toThrowableT N.toNpeT (freshCell P1.m.cls N.kN) W.heap.size u0 sen)).setTop g).pushFrame (.throwing W.heap.size) = (((W.pushCell (freshCell P1.m.cls N.kN)).setVm vm').setCell W.heap.size (npeBareV T.toThrowableT N.toNpeT (freshCell P1.m.cls N.kN) W.heap.size u0 sen)).setFrames (.throwing W.heap.size :: .java g :: below) := by
    rw [State.pushFrame, State.frames_setTop _ hfrM, State.setTop_of_frames _ hfrM, State.setFrames_setFrames]
  refine ⟨_, W.heap.size, _, fun target ht => st.trans (by rw [← hU]; exact ht), X3.forget (fun y hy => ?_), heapAt_setCell_self _ hlt, hfound, rfl⟩
  simp only [List.mem_cons, List.not_mem_nil, or_false] at hy
  have hge : s.heap.size ≤ W.heap.size := X.same.2.1
  rcases hy with rfl | rfl | rfl | rfl | rfl <;> exact hge
/-- the words of a machine's NullPointerException, but the four that speak of the heap -/
def vx_atN (n : Nat) : List Cond := (Bundle.npeArmAtoms n).filter vx_no
/-- the words of a machine's throw with a message, but the four that speak of the heap -/
def vx_atM (X : String) (names : List String) : List Cond := (Bundle.messageArmAtoms X names).filter vx_no
section
variable {p : Program} {l : Launch} {e : Env} {R : Room} {s : State} {m : MethodId} {args : Array Value} {below : List Frame} {meth : Method} {c : Code} {H : Heap} {locs : List Loc} {cells slots : Nat}
/-- a frame seen from a rebased start, seen from the first start again -/
theorem vx_back9 {T S : State} {R' : Room} {k n : Nat} (X : Stand p l e R s m args below meth c T locs cells slots) (Y : Stand p l e R' ((T.setVm s.vm).setFrames (.invoking m args :: below)) m args below meth c T [] 0 0) (Z : Stand p l e R' ((T.setVm s.vm).setFrames (.invoking m args :: below)) m args below meth c S [] k n) :
    Stand p l e R s m args below meth c S locs (cells + k) (slots + n) := by
  have hW0 : s.WarmedH ((T.setVm s.vm).setFrames (.invoking m args :: below)).vm := State.WarmedH.refl s
  refine { admits := X.admits, cas := X.cas, clock := X.clock, frames := X.frames, room := X.room, hears := X.hears, method := X.method, code := X.code, here := Z.here, tail := Z.tail, warmed := State.WarmedH.trans hW0 Z.warmed, limits := Z.limits.trans (Y.limits.symm.trans X.limits), bytes := Z.bytes.trans (Y.bytes.symm.trans X.bytes), same := ?_ }
  obtain ⟨e1, e2⟩ := Z.same
  rw [State.setFrames_setFrames] at e1
  have h2 : (T.setVm s.vm).sameButNew (S.setVm s.vm) [] k n := ⟨e1, e2⟩
  have h3 := X.same.trans h2
  rw [List.append_nil] at h3
  exact h3
/-- from the machine's note that E is thrown here with this text -/
def vx_Note (p : Program) (l : Launch) (e : Env) (R : Room) (s : State) (m : MethodId) (args : Array Value) (below : List Frame) (meth : Method) (c : Code) (H : Heap) (locs : List Loc) (cells slots : Nat) (Q : State → Prop) (g : JFrame) (E text : String) : Prop :=
  ∀ T : State, T.heap = H → Stand p l e R s m args below meth c T locs cells slots → ∃ t, Steps p.tables e below ((T.setTop g).pushFrame (.throwNew E (some text) none)) t ∧ Q t
theorem vx_vm {pc : Nat} {ls : Array Slot} {rest : List Value} {Q : State → Prop} (hexec : p.tables.exec = Jvm.exec) (hl : l.stackTraces = false) {cls text : String} {names : List String} {nb : Nat} {A : Nat → Prop}
    (hcls : Bundle.fit cls = true) (hnames : ∀ n ∈ names, Bundle.fit n = true) (hsoe : (cls == "java/lang/StackOverflowError") = false) (hoom : (cls == "java/lang/OutOfMemoryError") = false)
    (hat : ∀ w ∈ vx_atM cls names, w.before args s = true) (hgood : ∀ w ∈ vx_atM cls names, vx_ot w = true)
    (hU : vx_Zq Bundle.tN "UNASSIGNED_STACK" Bundle.steD A s s.heap) (hN : vx_Zq Bundle.tN "SUPPRESSED_SENTINEL" Bundle.listD A s s.heap) (hS : va_S A s.heap H locs) (hsize : ls.size = c.maxLocals)
    (htext : (text == notModelled) = false) (hnb : (stringBytes (stringToUtf16 text)).size ≤ nb) (hnb1 : nb ≤ 1000)
    (hRframes : names.length + 4 < R.frames) (hRlocals : (rest.map fun v => v.category).sum + 10240 ≤ R.locals) (hshort : 13 * names.length + 55 ≤ 10240) (hRcells : cells + 3 ≤ R.cells) (hRslots : slots + (nb + 10) ≤ R.slots) (hlocks : meth.locks = false)
    (k : ∀ (H1 : Heap) (q9 : Addr) (ce : Cell), H.size ≤ H1.size → (∀ q : Nat, q < H.size → H1[q]? = H[q]?) → va_S A s.heap H1 locs → H1[q9]? = some ce → ce.vm = .none → s.vm.findClass cls = some ce.cls → vx_W p l e R s m args below meth c H1 locs (cells + 3) (slots + (nb + 10)) Q (F0 m pc ls rest) q9) :
    vx_Note p l e R s m args below meth c H locs cells slots Q (F0 m pc ls rest) cls text := by
  intro T hT X
  have htr : e.platform.stackTraces = false := (show e.platform.stackTraces = l.stackTraces by rw [X.admits.platform]).trans hl
  have Y := vx_rebase X (R' := { frames := R.frames, locals := R.locals, cells := 3, slots := nb + 10 }) (Nat.le_refl _) (Nat.le_refl _) hRcells hRslots
  have hhp : ((T.setVm s.vm).setFrames (.invoking m args :: below)).heap = H := hT
  have hW0 : s.WarmedH ((T.setVm s.vm).setFrames (.invoking m args :: below)).vm := State.WarmedH.refl s
  have hat' : ∀ w ∈ vx_atM cls names, w.before args ((T.setVm s.vm).setFrames (.invoking m args :: below)) = true := fun w hw => vx_ot_at hW0 rfl (hgood w hw) (hat w hw)
  have hU' : vx_Zq Bundle.tN "UNASSIGNED_STACK" Bundle.steD A ((T.setVm s.vm).setFrames (.invoking m args :: below)) ((T.setVm s.vm).setFrames (.invoking m args :: below)).heap := by rw [hhp]; exact vx_Zq.moved hW0.alike (hU.kept hS.2.1)
  have hN' : vx_Zq Bundle.tN "SUPPRESSED_SENTINEL" Bundle.listD A ((T.setVm s.vm).setFrames (.invoking m args :: below)) ((T.setVm s.vm).setFrames (.invoking m args :: below)).heap := by rw [hhp]; exact vx_Zq.moved hW0.alike (hN.kept hS.2.1)
  obtain ⟨S, q, ce, st, Z, hce, hcl', hv⟩ := vx_vmAt Y hexec htr (cls := cls) (names := names) (text := text) hcls hnames hsoe hoom (vx_own hat' (vx_isRefq hU'.1) (vx_isRefq hN'.1) hU'.2.word hN'.2.word) (fun x hx => nomatch hx) htext
    (by rw [Launch.admits_arrayLengthLimit X.admits]; omega) (by rw [Launch.admits_maxHeapBytes X.admits]; simp only [componentBytes]; omega)
    (g := F0 m pc ls rest) rfl hsize hRframes (by show 2 * 0 + (rest.map fun v => v.category).sum + 10240 ≤ R.locals; omega) hshort (by show 0 + 3 ≤ 3; omega) (by show 0 + (_ + 4 + 6) ≤ nb + 10; omega) hlocks
  obtain ⟨f1, f2⟩ := vx_frame Z.same
  have f1' : H.size ≤ S.heap.size := by rw [← hT]; exact f1
  have f2' : ∀ q : Nat, q < H.size → S.heap[q]? = H[q]? := fun q hq => by
    rw [← hT]
    exact f2 q (by rw [← hT] at hq; exact hq) (fun z hz => nomatch hz)
  have X5 := vx_back9 X Y Z
  have X6 : Stand p l e R s m args below meth c S locs (cells + 3) (slots + (nb + 10)) := { X5 with same := X5.same.mono (by omega) (by omega) }
  obtain ⟨t, a1, b1⟩ := k S.heap q ce f1' f2' ⟨Nat.le_trans hS.1 f1', fun q h1 h2 => (f2' q (Nat.lt_of_lt_of_le h1 hS.1)).trans (hS.2.1 q h1 h2), hS.2.2⟩ hce hv hcl' S rfl X6
  exact ⟨t, st t a1, b1⟩
/-- from the machine's note that NullPointerException is thrown here -/
def vx_NoteN (p : Program) (l : Launch) (e : Env) (R : Room) (s : State) (m : MethodId) (args : Array Value) (below : List Frame) (meth : Method) (c : Code) (H : Heap) (locs : List Loc) (cells slots : Nat) (Q : State → Prop) (g : JFrame) : Prop :=
  ∀ T : State, T.heap = H → Stand p l e R s m args below meth c T locs cells slots → ∃ t, Steps p.tables e below ((T.setTop g).pushFrame (.throwNew "java/lang/NullPointerException" none none)) t ∧ Q t
theorem vx_npe {pc : Nat} {ls : Array Slot} {rest : List Value} {Q : State → Prop} (hexec : p.tables.exec = Jvm.exec) (hl : l.stackTraces = false) {nb : Nat} {A : Nat → Prop}
    (hat : ∀ w ∈ vx_atN nb, w.before args s = true) (hgood : ∀ w ∈ vx_atN nb, vx_ot w = true)
    (hU : vx_Zq Bundle.tN "UNASSIGNED_STACK" Bundle.steD A s s.heap) (hN : vx_Zq Bundle.tN "SUPPRESSED_SENTINEL" Bundle.listD A s s.heap) (hS : va_S A s.heap H locs) (hsize : ls.size = c.maxLocals)
    (hRframes : 7 < R.frames) (hRlocals : (rest.map fun v => v.category).sum + 10240 ≤ R.locals) (hRcells : cells + 1 ≤ R.cells) (hRslots : slots + nb ≤ R.slots) (hlocks : meth.locks = false)
    (k : ∀ (H1 : Heap) (q9 : Addr) (ce : Cell), H.size ≤ H1.size → (∀ q : Nat, q < H.size → H1[q]? = H[q]?) → va_S A s.heap H1 locs → H1[q9]? = some ce → ce.vm = .none → s.vm.findClass "java/lang/NullPointerException" = some ce.cls → vx_W p l e R s m args below meth c H1 locs (cells + 1) (slots + nb) Q (F0 m pc ls rest) q9) :
    vx_NoteN p l e R s m args below meth c H locs cells slots Q (F0 m pc ls rest) := by
  intro T hT X
  have htr : e.platform.stackTraces = false := (show e.platform.stackTraces = l.stackTraces by rw [X.admits.platform]).trans hl
  have Y := vx_rebase X (R' := { frames := R.frames, locals := R.locals, cells := 1, slots := nb }) (Nat.le_refl _) (Nat.le_refl _) hRcells hRslots
  have hhp : ((T.setVm s.vm).setFrames (.invoking m args :: below)).heap = H := hT
  have hW0 : s.WarmedH ((T.setVm s.vm).setFrames (.invoking m args :: below)).vm := State.WarmedH.refl s
  have hat' : ∀ w ∈ vx_atN nb, w.before args ((T.setVm s.vm).setFrames (.invoking m args :: below)) = true := fun w hw => vx_ot_at hW0 rfl (hgood w hw) (hat w hw)
  have hU' : vx_Zq Bundle.tN "UNASSIGNED_STACK" Bundle.steD A ((T.setVm s.vm).setFrames (.invoking m args :: below)) ((T.setVm s.vm).setFrames (.invoking m args :: below)).heap := by rw [hhp]; exact vx_Zq.moved hW0.alike (hU.kept hS.2.1)
  have hN' : vx_Zq Bundle.tN "SUPPRESSED_SENTINEL" Bundle.listD A ((T.setVm s.vm).setFrames (.invoking m args :: below)) ((T.setVm s.vm).setFrames (.invoking m args :: below)).heap := by rw [hhp]; exact vx_Zq.moved hW0.alike (hN.kept hS.2.1)
  obtain ⟨S, q, ce, st, Z, hce, hcl', hv⟩ := vx_npeAt Y hexec htr (n := nb) (vx_own hat' (vx_isRefq hU'.1) (vx_isRefq hN'.1) hU'.2.word hN'.2.word) (fun x hx => nomatch hx)
    (g := F0 m pc ls rest) rfl hsize hRframes (by show 2 * 0 + (rest.map fun v => v.category).sum + 10240 ≤ R.locals; omega) (by show 0 + 1 ≤ 1; omega) (by show 0 + nb ≤ nb; omega) hlocks
  obtain ⟨f1, f2⟩ := vx_frame Z.same
  have f1' : H.size ≤ S.heap.size := by rw [← hT]; exact f1
  have f2' : ∀ q : Nat, q < H.size → S.heap[q]? = H[q]? := fun q hq => by
    rw [← hT]
    exact f2 q (by rw [← hT] at hq; exact hq) (fun z hz => nomatch hz)
  have X5 := vx_back9 X Y Z
  have X6 : Stand p l e R s m args below meth c S locs (cells + 1) (slots + nb) := { X5 with same := X5.same.mono (by omega) (by omega) }
  obtain ⟨t, a1, b1⟩ := k S.heap q ce f1' f2' ⟨Nat.le_trans hS.1 f1', fun q h1 h2 => (f2' q (Nat.lt_of_lt_of_le h1 hS.1)).trans (hS.2.1 q h1 h2), hS.2.2⟩ hce hv hcl' S rfl X6
  exact ⟨t, st t a1, b1⟩
variable {Q : State → Prop} {cc : ByteArray} {pc : Nat} {ls : Array Slot} {rest : List Value}
theorem vx_idivZ (hexec : p.tables.exec = Jvm.exec) (hb : c.code = cc) {a b : Int32} (h0 : b = 0) (d : decode cc pc = .ok (.idiv, 1)) (k : vx_Note p l e R s m args below meth c H locs cells slots Q (F0 m pc ls rest) "java/lang/ArithmeticException" "/ by zero") :
    W p l e R s m args below meth c H locs cells slots Q (F0 m pc ls (.int b :: .int a :: rest)) := by
  intro T hT X
  obtain ⟨t, st, q⟩ := k T hT X
  exact ⟨t, X.idivZero hexec (g := F0 m pc ls (.int b :: .int a :: rest)) rfl (a := a) (rest := rest) (by rw [h0]) (by rw [hb]; exact d) t st, q⟩
theorem vx_iremZ (hexec : p.tables.exec = Jvm.exec) (hb : c.code = cc) {a b : Int32} (h0 : b = 0) (d : decode cc pc = .ok (.irem, 1)) (k : vx_Note p l e R s m args below meth c H locs cells slots Q (F0 m pc ls rest) "java/lang/ArithmeticException" "/ by zero") :
    W p l e R s m args below meth c H locs cells slots Q (F0 m pc ls (.int b :: .int a :: rest)) := by
  intro T hT X
  obtain ⟨t, st, q⟩ := k T hT X
  exact ⟨t, X.iremZero hexec (g := F0 m pc ls (.int b :: .int a :: rest)) rfl (a := a) (rest := rest) (by rw [h0]) (by rw [hb]; exact d) t st, q⟩
theorem vx_ldivZ (hexec : p.tables.exec = Jvm.exec) (hb : c.code = cc) {a b : Int64} (h0 : b = 0) (d : decode cc pc = .ok (.ldiv, 1)) (k : vx_Note p l e R s m args below meth c H locs cells slots Q (F0 m pc ls rest) "java/lang/ArithmeticException" "/ by zero") :
    W p l e R s m args below meth c H locs cells slots Q (F0 m pc ls (.long b :: .long a :: rest)) := by
  intro T hT X
  obtain ⟨t, st, q⟩ := k T hT X
  exact ⟨t, X.ldivZero hexec (g := F0 m pc ls (.long b :: .long a :: rest)) rfl (a := a) (rest := rest) (by rw [h0]) (by rw [hb]; exact d) t st, q⟩
theorem vx_lremZ (hexec : p.tables.exec = Jvm.exec) (hb : c.code = cc) {a b : Int64} (h0 : b = 0) (d : decode cc pc = .ok (.lrem, 1)) (k : vx_Note p l e R s m args below meth c H locs cells slots Q (F0 m pc ls rest) "java/lang/ArithmeticException" "/ by zero") :
    W p l e R s m args below meth c H locs cells slots Q (F0 m pc ls (.long b :: .long a :: rest)) := by
  intro T hT X
  obtain ⟨t, st, q⟩ := k T hT X
  exact ⟨t, X.lremZero hexec (g := F0 m pc ls (.long b :: .long a :: rest)) rfl (a := a) (rest := rest) (by rw [h0]) (by rw [hb]; exact d) t st, q⟩
theorem vx_ialdZ {D : va_G} {cl : List vw_C} {ws : va_W} {tys : List (ClassId × FieldType)} {a : Nat} (hexec : p.tables.exec = Jvm.exec) (hb : c.code = cc) (hK : va_K D cl tys s) (hP : va_P D cl ws H) (q0 t0 : Nat) {cA : ClassId} {n : Nat} {f : Nat → Int32} (ha : ws[q0]? = some (a, .inl (cA, n, .inl f))) (ht : tys[t0]? = some (cA, .int)) {i : Int32} (hout : ¬ vp_in i n) (hdg : decode cc pc = .ok (.iaload, 1))
    (k : ∀ tx : String, tx = (toString "Index " ++ toString i ++ toString " out of bounds for length " ++ toString n : String) → vx_Note p l e R s m args below meth c H locs cells slots Q (F0 m pc ls rest) "java/lang/ArrayIndexOutOfBoundsException" tx) : W p l e R s m args below meth c H locs cells slots Q (F0 m pc ls (.int i :: .ref a :: rest)) := by
  intro T hT X
  obtain ⟨t, st, q⟩ := k _ rfl T hT X
  refine ⟨t, ?_, q⟩
  have h1 := X.ialoadOut hexec (by rw [hT]; exact hP q0 _ ha) ((hK.2 t0 _ ht).1 n (fun j => .int (f j))) (j := i) (by show (i < 0 ∨ (arrV _ _ _).slots.size ≤ _); rw [arrV_size]; exact Classical.byContradiction hout) (g := F0 m pc ls (.int i :: .ref a :: rest)) rfl (rest := rest) rfl (by rw [hb]; exact hdg) t
  simp only [arrV_size] at h1
  exact h1 st
theorem vx_iastZ {D : va_G} {cl : List vw_C} {ws : va_W} {tys : List (ClassId × FieldType)} {a : Nat} (hexec : p.tables.exec = Jvm.exec) (hb : c.code = cc) (hK : va_K D cl tys s) (hP : va_P D cl ws H) (q0 t0 : Nat) {cA : ClassId} {n : Nat} {f : Nat → Int32} (ha : ws[q0]? = some (a, .inl (cA, n, .inl f))) (ht : tys[t0]? = some (cA, .int)) {i : Int32} {x : Int32} (hout : ¬ vp_in i n) (hdg : decode cc pc = .ok (.iastore, 1))
    (k : ∀ tx : String, tx = (toString "Index " ++ toString i ++ toString " out of bounds for length " ++ toString n : String) → vx_Note p l e R s m args below meth c H locs cells slots Q (F0 m pc ls rest) "java/lang/ArrayIndexOutOfBoundsException" tx) : W p l e R s m args below meth c H locs cells slots Q (F0 m pc ls (.int x :: .int i :: .ref a :: rest)) := by
  intro T hT X
  obtain ⟨t, st, q⟩ := k _ rfl T hT X
  refine ⟨t, ?_, q⟩
  have h1 := X.iastoreOut hexec (by rw [hT]; exact hP q0 _ ha) ((hK.2 t0 _ ht).1 n (fun j => .int (f j))) (j := i) (by show (i < 0 ∨ (arrV _ _ _).slots.size ≤ _); rw [arrV_size]; exact Classical.byContradiction hout) (g := F0 m pc ls (.int x :: .int i :: .ref a :: rest)) rfl (rest := rest) rfl (by rw [hb]; exact hdg) t
  simp only [arrV_size] at h1
  exact h1 st
theorem vx_baldZ {D : va_G} {cl : List vw_C} {ws : va_W} {tys : List (ClassId × FieldType)} {a : Nat} (hexec : p.tables.exec = Jvm.exec) (hb : c.code = cc) (hK : va_K D cl tys s) (hP : va_P D cl ws H) (q0 t0 : Nat) {cA : ClassId} {n : Nat} {f : Nat → Int32} (ha : ws[q0]? = some (a, .inl (cA, n, .inl f))) (ht : tys[t0]? = some (cA, .byte)) {i : Int32} (hout : ¬ vp_in i n) (hdg : decode cc pc = .ok (.baload, 1))
    (k : ∀ tx : String, tx = (toString "Index " ++ toString i ++ toString " out of bounds for length " ++ toString n : String) → vx_Note p l e R s m args below meth c H locs cells slots Q (F0 m pc ls rest) "java/lang/ArrayIndexOutOfBoundsException" tx) : W p l e R s m args below meth c H locs cells slots Q (F0 m pc ls (.int i :: .ref a :: rest)) := by
  intro T hT X
  obtain ⟨t, st, q⟩ := k _ rfl T hT X
  refine ⟨t, ?_, q⟩
  have h1 := X.baloadOut hexec (by rw [hT]; exact hP q0 _ ha) ((hK.2 t0 _ ht).1 n (fun j => .int (f j))) (j := i) (by show (i < 0 ∨ (arrV _ _ _).slots.size ≤ _); rw [arrV_size]; exact Classical.byContradiction hout) (g := F0 m pc ls (.int i :: .ref a :: rest)) rfl (rest := rest) rfl (by rw [hb]; exact hdg) t
  simp only [arrV_size] at h1
  exact h1 st
theorem vx_bastZ {D : va_G} {cl : List vw_C} {ws : va_W} {tys : List (ClassId × FieldType)} {a : Nat} (hexec : p.tables.exec = Jvm.exec) (hb : c.code = cc) (hK : va_K D cl tys s) (hP : va_P D cl ws H) (q0 t0 : Nat) {cA : ClassId} {n : Nat} {f : Nat → Int32} (ha : ws[q0]? = some (a, .inl (cA, n, .inl f))) (ht : tys[t0]? = some (cA, .byte)) {i : Int32} {x : Int32} (hout : ¬ vp_in i n) (hdg : decode cc pc = .ok (.bastore, 1))
    (k : ∀ tx : String, tx = (toString "Index " ++ toString i ++ toString " out of bounds for length " ++ toString n : String) → vx_Note p l e R s m args below meth c H locs cells slots Q (F0 m pc ls rest) "java/lang/ArrayIndexOutOfBoundsException" tx) : W p l e R s m args below meth c H locs cells slots Q (F0 m pc ls (.int x :: .int i :: .ref a :: rest)) := by
  intro T hT X
  obtain ⟨t, st, q⟩ := k _ rfl T hT X
  refine ⟨t, ?_, q⟩
  have h1 := X.bastoreOut hexec (by rw [hT]; exact hP q0 _ ha) ((hK.2 t0 _ ht).1 n (fun j => .int (f j))) (j := i) (by show (i < 0 ∨ (arrV _ _ _).slots.size ≤ _); rw [arrV_size]; exact Classical.byContradiction hout) (g := F0 m pc ls (.int x :: .int i :: .ref a :: rest)) rfl (rest := rest) rfl (by rw [hb]; exact hdg) t
  simp only [arrV_size] at h1
  exact h1 st
theorem vx_zaldZ {D : va_G} {cl : List vw_C} {ws : va_W} {tys : List (ClassId × FieldType)} {a : Nat} (hexec : p.tables.exec = Jvm.exec) (hb : c.code = cc) (hK : va_K D cl tys s) (hP : va_P D cl ws H) (q0 t0 : Nat) {cA : ClassId} {n : Nat} {f : Nat → Int32} (ha : ws[q0]? = some (a, .inl (cA, n, .inl f))) (ht : tys[t0]? = some (cA, .boolean)) {i : Int32} (hout : ¬ vp_in i n) (hdg : decode cc pc = .ok (.baload, 1))
    (k : ∀ tx : String, tx = (toString "Index " ++ toString i ++ toString " out of bounds for length " ++ toString n : String) → vx_Note p l e R s m args below meth c H locs cells slots Q (F0 m pc ls rest) "java/lang/ArrayIndexOutOfBoundsException" tx) : W p l e R s m args below meth c H locs cells slots Q (F0 m pc ls (.int i :: .ref a :: rest)) := by
  intro T hT X
  obtain ⟨t, st, q⟩ := k _ rfl T hT X
  refine ⟨t, ?_, q⟩
  have h1 := X.baloadOut hexec (by rw [hT]; exact hP q0 _ ha) ((hK.2 t0 _ ht).1 n (fun j => .int (f j))) (j := i) (by show (i < 0 ∨ (arrV _ _ _).slots.size ≤ _); rw [arrV_size]; exact Classical.byContradiction hout) (g := F0 m pc ls (.int i :: .ref a :: rest)) rfl (rest := rest) rfl (by rw [hb]; exact hdg) t
  simp only [arrV_size] at h1
  exact h1 st
theorem vx_zastZ {D : va_G} {cl : List vw_C} {ws : va_W} {tys : List (ClassId × FieldType)} {a : Nat} (hexec : p.tables.exec = Jvm.exec) (hb : c.code = cc) (hK : va_K D cl tys s) (hP : va_P D cl ws H) (q0 t0 : Nat) {cA : ClassId} {n : Nat} {f : Nat → Int32} (ha : ws[q0]? = some (a, .inl (cA, n, .inl f))) (ht : tys[t0]? = some (cA, .boolean)) {i : Int32} {x : Int32} (hout : ¬ vp_in i n) (hdg : decode cc pc = .ok (.bastore, 1))
    (k : ∀ tx : String, tx = (toString "Index " ++ toString i ++ toString " out of bounds for length " ++ toString n : String) → vx_Note p l e R s m args below meth c H locs cells slots Q (F0 m pc ls rest) "java/lang/ArrayIndexOutOfBoundsException" tx) : W p l e R s m args below meth c H locs cells slots Q (F0 m pc ls (.int x :: .int i :: .ref a :: rest)) := by
  intro T hT X
  obtain ⟨t, st, q⟩ := k _ rfl T hT X
  refine ⟨t, ?_, q⟩
  have h1 := X.bastoreOut hexec (by rw [hT]; exact hP q0 _ ha) ((hK.2 t0 _ ht).1 n (fun j => .int (f j))) (j := i) (by show (i < 0 ∨ (arrV _ _ _).slots.size ≤ _); rw [arrV_size]; exact Classical.byContradiction hout) (g := F0 m pc ls (.int x :: .int i :: .ref a :: rest)) rfl (rest := rest) rfl (by rw [hb]; exact hdg) t
  simp only [arrV_size] at h1
  exact h1 st
theorem vx_caldZ {D : va_G} {cl : List vw_C} {ws : va_W} {tys : List (ClassId × FieldType)} {a : Nat} (hexec : p.tables.exec = Jvm.exec) (hb : c.code = cc) (hK : va_K D cl tys s) (hP : va_P D cl ws H) (q0 t0 : Nat) {cA : ClassId} {n : Nat} {f : Nat → Int32} (ha : ws[q0]? = some (a, .inl (cA, n, .inl f))) (ht : tys[t0]? = some (cA, .char)) {i : Int32} (hout : ¬ vp_in i n) (hdg : decode cc pc = .ok (.caload, 1))
    (k : ∀ tx : String, tx = (toString "Index " ++ toString i ++ toString " out of bounds for length " ++ toString n : String) → vx_Note p l e R s m args below meth c H locs cells slots Q (F0 m pc ls rest) "java/lang/ArrayIndexOutOfBoundsException" tx) : W p l e R s m args below meth c H locs cells slots Q (F0 m pc ls (.int i :: .ref a :: rest)) := by
  intro T hT X
  obtain ⟨t, st, q⟩ := k _ rfl T hT X
  refine ⟨t, ?_, q⟩
  have h1 := X.caloadOut hexec (by rw [hT]; exact hP q0 _ ha) ((hK.2 t0 _ ht).1 n (fun j => .int (f j))) (j := i) (by show (i < 0 ∨ (arrV _ _ _).slots.size ≤ _); rw [arrV_size]; exact Classical.byContradiction hout) (g := F0 m pc ls (.int i :: .ref a :: rest)) rfl (rest := rest) rfl (by rw [hb]; exact hdg) t
  simp only [arrV_size] at h1
  exact h1 st
theorem vx_castZ {D : va_G} {cl : List vw_C} {ws : va_W} {tys : List (ClassId × FieldType)} {a : Nat} (hexec : p.tables.exec = Jvm.exec) (hb : c.code = cc) (hK : va_K D cl tys s) (hP : va_P D cl ws H) (q0 t0 : Nat) {cA : ClassId} {n : Nat} {f : Nat → Int32} (ha : ws[q0]? = some (a, .inl (cA, n, .inl f))) (ht : tys[t0]? = some (cA, .char)) {i : Int32} {x : Int32} (hout : ¬ vp_in i n) (hdg : decode cc pc = .ok (.castore, 1))
    (k : ∀ tx : String, tx = (toString "Index " ++ toString i ++ toString " out of bounds for length " ++ toString n : String) → vx_Note p l e R s m args below meth c H locs cells slots Q (F0 m pc ls rest) "java/lang/ArrayIndexOutOfBoundsException" tx) : W p l e R s m args below meth c H locs cells slots Q (F0 m pc ls (.int x :: .int i :: .ref a :: rest)) := by
  intro T hT X
  obtain ⟨t, st, q⟩ := k _ rfl T hT X
  refine ⟨t, ?_, q⟩
  have h1 := X.castoreOut hexec (by rw [hT]; exact hP q0 _ ha) ((hK.2 t0 _ ht).1 n (fun j => .int (f j))) (j := i) (by show (i < 0 ∨ (arrV _ _ _).slots.size ≤ _); rw [arrV_size]; exact Classical.byContradiction hout) (g := F0 m pc ls (.int x :: .int i :: .ref a :: rest)) rfl (rest := rest) rfl (by rw [hb]; exact hdg) t
  simp only [arrV_size] at h1
  exact h1 st
theorem vx_saldZ {D : va_G} {cl : List vw_C} {ws : va_W} {tys : List (ClassId × FieldType)} {a : Nat} (hexec : p.tables.exec = Jvm.exec) (hb : c.code = cc) (hK : va_K D cl tys s) (hP : va_P D cl ws H) (q0 t0 : Nat) {cA : ClassId} {n : Nat} {f : Nat → Int32} (ha : ws[q0]? = some (a, .inl (cA, n, .inl f))) (ht : tys[t0]? = some (cA, .short)) {i : Int32} (hout : ¬ vp_in i n) (hdg : decode cc pc = .ok (.saload, 1))
    (k : ∀ tx : String, tx = (toString "Index " ++ toString i ++ toString " out of bounds for length " ++ toString n : String) → vx_Note p l e R s m args below meth c H locs cells slots Q (F0 m pc ls rest) "java/lang/ArrayIndexOutOfBoundsException" tx) : W p l e R s m args below meth c H locs cells slots Q (F0 m pc ls (.int i :: .ref a :: rest)) := by
  intro T hT X
  obtain ⟨t, st, q⟩ := k _ rfl T hT X
  refine ⟨t, ?_, q⟩
  have h1 := X.saloadOut hexec (by rw [hT]; exact hP q0 _ ha) ((hK.2 t0 _ ht).1 n (fun j => .int (f j))) (j := i) (by show (i < 0 ∨ (arrV _ _ _).slots.size ≤ _); rw [arrV_size]; exact Classical.byContradiction hout) (g := F0 m pc ls (.int i :: .ref a :: rest)) rfl (rest := rest) rfl (by rw [hb]; exact hdg) t
  simp only [arrV_size] at h1
  exact h1 st
theorem vx_sastZ {D : va_G} {cl : List vw_C} {ws : va_W} {tys : List (ClassId × FieldType)} {a : Nat} (hexec : p.tables.exec = Jvm.exec) (hb : c.code = cc) (hK : va_K D cl tys s) (hP : va_P D cl ws H) (q0 t0 : Nat) {cA : ClassId} {n : Nat} {f : Nat → Int32} (ha : ws[q0]? = some (a, .inl (cA, n, .inl f))) (ht : tys[t0]? = some (cA, .short)) {i : Int32} {x : Int32} (hout : ¬ vp_in i n) (hdg : decode cc pc = .ok (.sastore, 1))
    (k : ∀ tx : String, tx = (toString "Index " ++ toString i ++ toString " out of bounds for length " ++ toString n : String) → vx_Note p l e R s m args below meth c H locs cells slots Q (F0 m pc ls rest) "java/lang/ArrayIndexOutOfBoundsException" tx) : W p l e R s m args below meth c H locs cells slots Q (F0 m pc ls (.int x :: .int i :: .ref a :: rest)) := by
  intro T hT X
  obtain ⟨t, st, q⟩ := k _ rfl T hT X
  refine ⟨t, ?_, q⟩
  have h1 := X.sastoreOut hexec (by rw [hT]; exact hP q0 _ ha) ((hK.2 t0 _ ht).1 n (fun j => .int (f j))) (j := i) (by show (i < 0 ∨ (arrV _ _ _).slots.size ≤ _); rw [arrV_size]; exact Classical.byContradiction hout) (g := F0 m pc ls (.int x :: .int i :: .ref a :: rest)) rfl (rest := rest) rfl (by rw [hb]; exact hdg) t
  simp only [arrV_size] at h1
  exact h1 st
theorem vx_laldZ {D : va_G} {cl : List vw_C} {ws : va_W} {tys : List (ClassId × FieldType)} {a : Nat} (hexec : p.tables.exec = Jvm.exec) (hb : c.code = cc) (hK : va_K D cl tys s) (hP : va_P D cl ws H) (q0 t0 : Nat) {cA : ClassId} {n : Nat} {f : Nat → Int64} (ha : ws[q0]? = some (a, .inl (cA, n, .inr (.inl f)))) (ht : tys[t0]? = some (cA, .long)) {i : Int32} (hout : ¬ vp_in i n) (hdg : decode cc pc = .ok (.laload, 1))
    (k : ∀ tx : String, tx = (toString "Index " ++ toString i ++ toString " out of bounds for length " ++ toString n : String) → vx_Note p l e R s m args below meth c H locs cells slots Q (F0 m pc ls rest) "java/lang/ArrayIndexOutOfBoundsException" tx) : W p l e R s m args below meth c H locs cells slots Q (F0 m pc ls (.int i :: .ref a :: rest)) := by
  intro T hT X
  obtain ⟨t, st, q⟩ := k _ rfl T hT X
  refine ⟨t, ?_, q⟩
  have h1 := X.laloadOut hexec (by rw [hT]; exact hP q0 _ ha) ((hK.2 t0 _ ht).1 n (fun j => .long (f j))) (j := i) (by show (i < 0 ∨ (arrV _ _ _).slots.size ≤ _); rw [arrV_size]; exact Classical.byContradiction hout) (g := F0 m pc ls (.int i :: .ref a :: rest)) rfl (rest := rest) rfl (by rw [hb]; exact hdg) t
  simp only [arrV_size] at h1
  exact h1 st
theorem vx_lastZ {D : va_G} {cl : List vw_C} {ws : va_W} {tys : List (ClassId × FieldType)} {a : Nat} (hexec : p.tables.exec = Jvm.exec) (hb : c.code = cc) (hK : va_K D cl tys s) (hP : va_P D cl ws H) (q0 t0 : Nat) {cA : ClassId} {n : Nat} {f : Nat → Int64} (ha : ws[q0]? = some (a, .inl (cA, n, .inr (.inl f)))) (ht : tys[t0]? = some (cA, .long)) {i : Int32} {x : Int64} (hout : ¬ vp_in i n) (hdg : decode cc pc = .ok (.lastore, 1))
    (k : ∀ tx : String, tx = (toString "Index " ++ toString i ++ toString " out of bounds for length " ++ toString n : String) → vx_Note p l e R s m args below meth c H locs cells slots Q (F0 m pc ls rest) "java/lang/ArrayIndexOutOfBoundsException" tx) : W p l e R s m args below meth c H locs cells slots Q (F0 m pc ls (.long x :: .int i :: .ref a :: rest)) := by
  intro T hT X
  obtain ⟨t, st, q⟩ := k _ rfl T hT X
  refine ⟨t, ?_, q⟩
  have h1 := X.lastoreOut hexec (by rw [hT]; exact hP q0 _ ha) ((hK.2 t0 _ ht).1 n (fun j => .long (f j))) (j := i) (by show (i < 0 ∨ (arrV _ _ _).slots.size ≤ _); rw [arrV_size]; exact Classical.byContradiction hout) (g := F0 m pc ls (.long x :: .int i :: .ref a :: rest)) rfl (rest := rest) rfl (by rw [hb]; exact hdg) t
  simp only [arrV_size] at h1
  exact h1 st
theorem vx_faldZ {D : va_G} {cl : List vw_C} {ws : va_W} {tys : List (ClassId × FieldType)} {a : Nat} (hexec : p.tables.exec = Jvm.exec) (hb : c.code = cc) (hK : va_K D cl tys s) (hP : va_P D cl ws H) (q0 t0 : Nat) {cA : ClassId} {n : Nat} {f : Nat → UInt32} (ha : ws[q0]? = some (a, .inl (cA, n, .inr (.inr (.inl f))))) (ht : tys[t0]? = some (cA, .float)) {i : Int32} (hout : ¬ vp_in i n) (hdg : decode cc pc = .ok (.faload, 1))
    (k : ∀ tx : String, tx = (toString "Index " ++ toString i ++ toString " out of bounds for length " ++ toString n : String) → vx_Note p l e R s m args below meth c H locs cells slots Q (F0 m pc ls rest) "java/lang/ArrayIndexOutOfBoundsException" tx) : W p l e R s m args below meth c H locs cells slots Q (F0 m pc ls (.int i :: .ref a :: rest)) := by
  intro T hT X
  obtain ⟨t, st, q⟩ := k _ rfl T hT X
  refine ⟨t, ?_, q⟩
  have h1 := X.faloadOut hexec (by rw [hT]; exact hP q0 _ ha) ((hK.2 t0 _ ht).1 n (fun j => .float (f j))) (j := i) (by show (i < 0 ∨ (arrV _ _ _).slots.size ≤ _); rw [arrV_size]; exact Classical.byContradiction hout) (g := F0 m pc ls (.int i :: .ref a :: rest)) rfl (rest := rest) rfl (by rw [hb]; exact hdg) t
  simp only [arrV_size] at h1
  exact h1 st
theorem vx_fastZ {D : va_G} {cl : List vw_C} {ws : va_W} {tys : List (ClassId × FieldType)} {a : Nat} (hexec : p.tables.exec = Jvm.exec) (hb : c.code = cc) (hK : va_K D cl tys s) (hP : va_P D cl ws H) (q0 t0 : Nat) {cA : ClassId} {n : Nat} {f : Nat → UInt32} (ha : ws[q0]? = some (a, .inl (cA, n, .inr (.inr (.inl f))))) (ht : tys[t0]? = some (cA, .float)) {i : Int32} {x : UInt32} (hout : ¬ vp_in i n) (hdg : decode cc pc = .ok (.fastore, 1))
    (k : ∀ tx : String, tx = (toString "Index " ++ toString i ++ toString " out of bounds for length " ++ toString n : String) → vx_Note p l e R s m args below meth c H locs cells slots Q (F0 m pc ls rest) "java/lang/ArrayIndexOutOfBoundsException" tx) : W p l e R s m args below meth c H locs cells slots Q (F0 m pc ls (.float x :: .int i :: .ref a :: rest)) := by
  intro T hT X
  obtain ⟨t, st, q⟩ := k _ rfl T hT X
  refine ⟨t, ?_, q⟩
  have h1 := X.fastoreOut hexec (by rw [hT]; exact hP q0 _ ha) ((hK.2 t0 _ ht).1 n (fun j => .float (f j))) (j := i) (by show (i < 0 ∨ (arrV _ _ _).slots.size ≤ _); rw [arrV_size]; exact Classical.byContradiction hout) (g := F0 m pc ls (.float x :: .int i :: .ref a :: rest)) rfl (rest := rest) rfl (by rw [hb]; exact hdg) t
  simp only [arrV_size] at h1
  exact h1 st
theorem vx_daldZ {D : va_G} {cl : List vw_C} {ws : va_W} {tys : List (ClassId × FieldType)} {a : Nat} (hexec : p.tables.exec = Jvm.exec) (hb : c.code = cc) (hK : va_K D cl tys s) (hP : va_P D cl ws H) (q0 t0 : Nat) {cA : ClassId} {n : Nat} {f : Nat → UInt64} (ha : ws[q0]? = some (a, .inl (cA, n, .inr (.inr (.inr (.inl f)))))) (ht : tys[t0]? = some (cA, .double)) {i : Int32} (hout : ¬ vp_in i n) (hdg : decode cc pc = .ok (.daload, 1))
    (k : ∀ tx : String, tx = (toString "Index " ++ toString i ++ toString " out of bounds for length " ++ toString n : String) → vx_Note p l e R s m args below meth c H locs cells slots Q (F0 m pc ls rest) "java/lang/ArrayIndexOutOfBoundsException" tx) : W p l e R s m args below meth c H locs cells slots Q (F0 m pc ls (.int i :: .ref a :: rest)) := by
  intro T hT X
  obtain ⟨t, st, q⟩ := k _ rfl T hT X
  refine ⟨t, ?_, q⟩
  have h1 := X.daloadOut hexec (by rw [hT]; exact hP q0 _ ha) ((hK.2 t0 _ ht).1 n (fun j => .double (f j))) (j := i) (by show (i < 0 ∨ (arrV _ _ _).slots.size ≤ _); rw [arrV_size]; exact Classical.byContradiction hout) (g := F0 m pc ls (.int i :: .ref a :: rest)) rfl (rest := rest) rfl (by rw [hb]; exact hdg) t
  simp only [arrV_size] at h1
  exact h1 st
theorem vx_dastZ {D : va_G} {cl : List vw_C} {ws : va_W} {tys : List (ClassId × FieldType)} {a : Nat} (hexec : p.tables.exec = Jvm.exec) (hb : c.code = cc) (hK : va_K D cl tys s) (hP : va_P D cl ws H) (q0 t0 : Nat) {cA : ClassId} {n : Nat} {f : Nat → UInt64} (ha : ws[q0]? = some (a, .inl (cA, n, .inr (.inr (.inr (.inl f)))))) (ht : tys[t0]? = some (cA, .double)) {i : Int32} {x : UInt64} (hout : ¬ vp_in i n) (hdg : decode cc pc = .ok (.dastore, 1))
    (k : ∀ tx : String, tx = (toString "Index " ++ toString i ++ toString " out of bounds for length " ++ toString n : String) → vx_Note p l e R s m args below meth c H locs cells slots Q (F0 m pc ls rest) "java/lang/ArrayIndexOutOfBoundsException" tx) : W p l e R s m args below meth c H locs cells slots Q (F0 m pc ls (.double x :: .int i :: .ref a :: rest)) := by
  intro T hT X
  obtain ⟨t, st, q⟩ := k _ rfl T hT X
  refine ⟨t, ?_, q⟩
  have h1 := X.dastoreOut hexec (by rw [hT]; exact hP q0 _ ha) ((hK.2 t0 _ ht).1 n (fun j => .double (f j))) (j := i) (by show (i < 0 ∨ (arrV _ _ _).slots.size ≤ _); rw [arrV_size]; exact Classical.byContradiction hout) (g := F0 m pc ls (.double x :: .int i :: .ref a :: rest)) rfl (rest := rest) rfl (by rw [hb]; exact hdg) t
  simp only [arrV_size] at h1
  exact h1 st
theorem vx_arraylengthN (hexec : p.tables.exec = Jvm.exec) (hb : c.code = cc) (hdg : decode cc pc = .ok (.arraylength, 1)) (k : vx_NoteN p l e R s m args below meth c H locs cells slots Q (F0 m pc ls rest)) : W p l e R s m args below meth c H locs cells slots Q (F0 m pc ls (.null :: rest)) := by
  intro T hT X
  obtain ⟨t, st, q⟩ := k T hT X
  exact ⟨t, X.arraylengthNull hexec (g := F0 m pc ls (.null :: rest)) rfl (rest := rest) rfl (by rw [hb]; exact hdg) t st, q⟩
theorem vx_ialoadN (hexec : p.tables.exec = Jvm.exec) (hb : c.code = cc) {i : Int32} (hdg : decode cc pc = .ok (.iaload, 1)) (k : vx_NoteN p l e R s m args below meth c H locs cells slots Q (F0 m pc ls rest)) : W p l e R s m args below meth c H locs cells slots Q (F0 m pc ls (.int i :: .null :: rest)) := by
  intro T hT X
  obtain ⟨t, st, q⟩ := k T hT X
  exact ⟨t, X.ialoadNull hexec (g := F0 m pc ls (.int i :: .null :: rest)) rfl (rest := rest) rfl (by rw [hb]; exact hdg) t st, q⟩
theorem vx_laloadN (hexec : p.tables.exec = Jvm.exec) (hb : c.code = cc) {i : Int32} (hdg : decode cc pc = .ok (.laload, 1)) (k : vx_NoteN p l e R s m args below meth c H locs cells slots Q (F0 m pc ls rest)) : W p l e R s m args below meth c H locs cells slots Q (F0 m pc ls (.int i :: .null :: rest)) := by
  intro T hT X
  obtain ⟨t, st, q⟩ := k T hT X
  exact ⟨t, X.laloadNull hexec (g := F0 m pc ls (.int i :: .null :: rest)) rfl (rest := rest) rfl (by rw [hb]; exact hdg) t st, q⟩
theorem vx_faloadN (hexec : p.tables.exec = Jvm.exec) (hb : c.code = cc) {i : Int32} (hdg : decode cc pc = .ok (.faload, 1)) (k : vx_NoteN p l e R s m args below meth c H locs cells slots Q (F0 m pc ls rest)) : W p l e R s m args below meth c H locs cells slots Q (F0 m pc ls (.int i :: .null :: rest)) := by
  intro T hT X
  obtain ⟨t, st, q⟩ := k T hT X
  exact ⟨t, X.faloadNull hexec (g := F0 m pc ls (.int i :: .null :: rest)) rfl (rest := rest) rfl (by rw [hb]; exact hdg) t st, q⟩
theorem vx_daloadN (hexec : p.tables.exec = Jvm.exec) (hb : c.code = cc) {i : Int32} (hdg : decode cc pc = .ok (.daload, 1)) (k : vx_NoteN p l e R s m args below meth c H locs cells slots Q (F0 m pc ls rest)) : W p l e R s m args below meth c H locs cells slots Q (F0 m pc ls (.int i :: .null :: rest)) := by
  intro T hT X
  obtain ⟨t, st, q⟩ := k T hT X
  exact ⟨t, X.daloadNull hexec (g := F0 m pc ls (.int i :: .null :: rest)) rfl (rest := rest) rfl (by rw [hb]; exact hdg) t st, q⟩
theorem vx_aaloadN (hexec : p.tables.exec = Jvm.exec) (hb : c.code = cc) {i : Int32} (hdg : decode cc pc = .ok (.aaload, 1)) (k : vx_NoteN p l e R s m args below meth c H locs cells slots Q (F0 m pc ls rest)) : W p l e R s m args below meth c H locs cells slots Q (F0 m pc ls (.int i :: .null :: rest)) := by
  intro T hT X
  obtain ⟨t, st, q⟩ := k T hT X
  exact ⟨t, X.aaloadNull hexec (g := F0 m pc ls (.int i :: .null :: rest)) rfl (rest := rest) rfl (by rw [hb]; exact hdg) t st, q⟩
theorem vx_baloadN (hexec : p.tables.exec = Jvm.exec) (hb : c.code = cc) {i : Int32} (hdg : decode cc pc = .ok (.baload, 1)) (k : vx_NoteN p l e R s m args below meth c H locs cells slots Q (F0 m pc ls rest)) : W p l e R s m args below meth c H locs cells slots Q (F0 m pc ls (.int i :: .null :: rest)) := by
  intro T hT X
  obtain ⟨t, st, q⟩ := k T hT X
  exact ⟨t, X.baloadNull hexec (g := F0 m pc ls (.int i :: .null :: rest)) rfl (rest := rest) rfl (by rw [hb]; exact hdg) t st, q⟩
theorem vx_caloadN (hexec : p.tables.exec = Jvm.exec) (hb : c.code = cc) {i : Int32} (hdg : decode cc pc = .ok (.caload, 1)) (k : vx_NoteN p l e R s m args below meth c H locs cells slots Q (F0 m pc ls rest)) : W p l e R s m args below meth c H locs cells slots Q (F0 m pc ls (.int i :: .null :: rest)) := by
  intro T hT X
  obtain ⟨t, st, q⟩ := k T hT X
  exact ⟨t, X.caloadNull hexec (g := F0 m pc ls (.int i :: .null :: rest)) rfl (rest := rest) rfl (by rw [hb]; exact hdg) t st, q⟩
theorem vx_saloadN (hexec : p.tables.exec = Jvm.exec) (hb : c.code = cc) {i : Int32} (hdg : decode cc pc = .ok (.saload, 1)) (k : vx_NoteN p l e R s m args below meth c H locs cells slots Q (F0 m pc ls rest)) : W p l e R s m args below meth c H locs cells slots Q (F0 m pc ls (.int i :: .null :: rest)) := by
  intro T hT X
  obtain ⟨t, st, q⟩ := k T hT X
  exact ⟨t, X.saloadNull hexec (g := F0 m pc ls (.int i :: .null :: rest)) rfl (rest := rest) rfl (by rw [hb]; exact hdg) t st, q⟩
theorem vx_iastoreN (hexec : p.tables.exec = Jvm.exec) (hb : c.code = cc) {x : Int32} {i : Int32} (hdg : decode cc pc = .ok (.iastore, 1)) (k : vx_NoteN p l e R s m args below meth c H locs cells slots Q (F0 m pc ls rest)) : W p l e R s m args below meth c H locs cells slots Q (F0 m pc ls (.int x :: .int i :: .null :: rest)) := by
  intro T hT X
  obtain ⟨t, st, q⟩ := k T hT X
  exact ⟨t, X.iastoreNull hexec (g := F0 m pc ls (.int x :: .int i :: .null :: rest)) rfl (rest := rest) rfl (by rw [hb]; exact hdg) t st, q⟩
theorem vx_lastoreN (hexec : p.tables.exec = Jvm.exec) (hb : c.code = cc) {x : Int64} {i : Int32} (hdg : decode cc pc = .ok (.lastore, 1)) (k : vx_NoteN p l e R s m args below meth c H locs cells slots Q (F0 m pc ls rest)) : W p l e R s m args below meth c H locs cells slots Q (F0 m pc ls (.long x :: .int i :: .null :: rest)) := by
  intro T hT X
  obtain ⟨t, st, q⟩ := k T hT X
  exact ⟨t, X.lastoreNull hexec (g := F0 m pc ls (.long x :: .int i :: .null :: rest)) rfl (rest := rest) rfl (by rw [hb]; exact hdg) t st, q⟩
theorem vx_fastoreN (hexec : p.tables.exec = Jvm.exec) (hb : c.code = cc) {x : UInt32} {i : Int32} (hdg : decode cc pc = .ok (.fastore, 1)) (k : vx_NoteN p l e R s m args below meth c H locs cells slots Q (F0 m pc ls rest)) : W p l e R s m args below meth c H locs cells slots Q (F0 m pc ls (.float x :: .int i :: .null :: rest)) := by
  intro T hT X
  obtain ⟨t, st, q⟩ := k T hT X
  exact ⟨t, X.fastoreNull hexec (g := F0 m pc ls (.float x :: .int i :: .null :: rest)) rfl (rest := rest) rfl (by rw [hb]; exact hdg) t st, q⟩
theorem vx_dastoreN (hexec : p.tables.exec = Jvm.exec) (hb : c.code = cc) {x : UInt64} {i : Int32} (hdg : decode cc pc = .ok (.dastore, 1)) (k : vx_NoteN p l e R s m args below meth c H locs cells slots Q (F0 m pc ls rest)) : W p l e R s m args below meth c H locs cells slots Q (F0 m pc ls (.double x :: .int i :: .null :: rest)) := by
  intro T hT X
  obtain ⟨t, st, q⟩ := k T hT X
  exact ⟨t, X.dastoreNull hexec (g := F0 m pc ls (.double x :: .int i :: .null :: rest)) rfl (rest := rest) rfl (by rw [hb]; exact hdg) t st, q⟩
theorem vx_bastoreN (hexec : p.tables.exec = Jvm.exec) (hb : c.code = cc) {x : Int32} {i : Int32} (hdg : decode cc pc = .ok (.bastore, 1)) (k : vx_NoteN p l e R s m args below meth c H locs cells slots Q (F0 m pc ls rest)) : W p l e R s m args below meth c H locs cells slots Q (F0 m pc ls (.int x :: .int i :: .null :: rest)) := by
  intro T hT X
  obtain ⟨t, st, q⟩ := k T hT X
  exact ⟨t, X.bastoreNull hexec (g := F0 m pc ls (.int x :: .int i :: .null :: rest)) rfl (rest := rest) rfl (by rw [hb]; exact hdg) t st, q⟩
theorem vx_castoreN (hexec : p.tables.exec = Jvm.exec) (hb : c.code = cc) {x : Int32} {i : Int32} (hdg : decode cc pc = .ok (.castore, 1)) (k : vx_NoteN p l e R s m args below meth c H locs cells slots Q (F0 m pc ls rest)) : W p l e R s m args below meth c H locs cells slots Q (F0 m pc ls (.int x :: .int i :: .null :: rest)) := by
  intro T hT X
  obtain ⟨t, st, q⟩ := k T hT X
  exact ⟨t, X.castoreNull hexec (g := F0 m pc ls (.int x :: .int i :: .null :: rest)) rfl (rest := rest) rfl (by rw [hb]; exact hdg) t st, q⟩
theorem vx_sastoreN (hexec : p.tables.exec = Jvm.exec) (hb : c.code = cc) {x : Int32} {i : Int32} (hdg : decode cc pc = .ok (.sastore, 1)) (k : vx_NoteN p l e R s m args below meth c H locs cells slots Q (F0 m pc ls rest)) : W p l e R s m args below meth c H locs cells slots Q (F0 m pc ls (.int x :: .int i :: .null :: rest)) := by
  intro T hT X
  obtain ⟨t, st, q⟩ := k T hT X
  exact ⟨t, X.sastoreNull hexec (g := F0 m pc ls (.int x :: .int i :: .null :: rest)) rfl (rest := rest) rfl (by rw [hb]; exact hdg) t st, q⟩
theorem vx_invokeN {own C : String} {index maxL : Nat} {y : MethodName} {bytes : ByteArray} {ret : Option FieldType} (hexec : p.tables.exec = Jvm.exec) (hb : c.code = cc) (hown : s.vm.findClass own = some m.cls) (hlink : (Cond.methodLink own index y).before args s = true) (hinst : (Cond.instanceMethod y).before args s = true) (hcode : (Cond.code y bytes maxL ret).before args s = true) (hsel : (Cond.selects C y y).before args s = true)
    (hx : y.cls ≠ "java/lang/invoke/MethodHandle" ∧ y.cls ≠ "java/lang/invoke/VarHandle") {As : List Value} (hlen : (parseMethodDescriptor y.desc).map (fun d => d.parameters.length) = some As.length) (hdg : decode cc pc = .ok (.invokevirtual index, 3))
    (k : vx_NoteN p l e R s m args below meth c H locs cells slots Q (F0 m pc ls rest)) {st0 : List Value} (hst : st0 = As.reverse ++ .null :: rest) : W p l e R s m args below meth c H locs cells slots Q (F0 m pc ls st0) := by
  intro T hT X
  obtain ⟨r0, r, hn, hrm, hstR, hsigR⟩ := va_Decl.of hinst hcode
  obtain ⟨c2, r2, m2, q1, q2, q3, q4, kP, hkP, hkPi⟩ := Cond.selects_spec hsel
  cases hn.symm.trans q3
  have hl9 : As.length = r.sig.parameters.length := by
    rw [hsigR] at hlen
    exact (Option.some.inj hlen).symm
  obtain ⟨vm', X1, st1⟩ := X.invokevirtualNull hexec hown hlink hn hrm hstR hkP hkPi hx (g := F0 m pc ls st0) rfl (argsL := As) (rest := rest) hl9 hst (by rw [hb]; exact hdg)
  obtain ⟨t, st, q⟩ := k (T.setVm vm') hT X1
  exact ⟨t, st1 t st, q⟩
theorem vx_newarrayZ {atype : ArrayType} (hexec : p.tables.exec = Jvm.exec) (hb : c.code = cc) {n : Int32} (h0 : n < 0) (hdg : decode cc pc = .ok (.newarray atype, 2)) (k : ∀ tx : String, tx = toString n → vx_Note p l e R s m args below meth c H locs cells slots Q (F0 m pc ls rest) "java/lang/NegativeArraySizeException" tx) : W p l e R s m args below meth c H locs cells slots Q (F0 m pc ls (.int n :: rest)) := by
  intro T hT X
  obtain ⟨t, st, q⟩ := k _ rfl T hT X
  exact ⟨t, X.newarrayNegative hexec (g := F0 m pc ls (.int n :: rest)) rfl h0 (rest := rest) rfl (by rw [hb]; exact hdg) t st, q⟩
end
end VXM
/-! ===== END ===== -/

/-! ===== BEGIN printed: names, fields, word lists, decode rows ===== -/
def RX0 : String := "Festivalgrid$Act"
def TX0 : u_T := fun k => match k with
  | 0 => ("Festivalgrid$Act", "stage", "I", false)
  | 1 => ("Festivalgrid$Act", "start", "I", false)
  | 2 => ("Festivalgrid$Act", "length", "I", false)
  | 3 => ("Festivalgrid$Act", "phase", "I", false)
  | 4 => ("Festivalgrid$Act", "draw", "I", false)
  | 5 => ("Festivalgrid$Act", "loud", "I", false)
  | 6 => ("Festivalgrid$Act", "channel", "I", false)
  | 7 => ("Festivalgrid$Act", "planned", "Z", false)
  | _ => ("Festivalgrid$Act", "waits", "Z", false)
def tyX0 : Nat → FieldType := fun k => match k with
  | 0 => .int
  | 1 => .int
  | 2 => .int
  | 3 => .int
  | 4 => .int
  | 5 => .int
  | 6 => .int
  | 7 => .boolean
  | _ => .boolean
abbrev wsX00 : List Cond := u_ws RX0 TX0 9
theorem nmX0 : ∀ a, a < 9 → ∀ b, b < 9 → a ≠ b → (TX0 a).2.1 ≠ (TX0 b).2.1 := by decide +kernel
theorem tyX0_ok : ∀ k, k < 9 → parseFieldDescriptor (TX0 k).2.2.1 = some (tyX0 k) := by decide +kernel
abbrev cX0_init : ByteArray := prog_2_method_1_code
def yX0_init : MethodName := ⟨RX0, "<init>", "()V"⟩
abbrev cX0_end : ByteArray := prog_2_method_2_code
def yX0_end : MethodName := ⟨RX0, "end", "()I"⟩
abbrev cX0_playsAt : ByteArray := prog_2_method_3_code
def yX0_playsAt : MethodName := ⟨RX0, "playsAt", "(I)Z"⟩
abbrev cX0_isTooNear : ByteArray := prog_2_method_4_code
def yX0_isTooNear : MethodName := ⟨RX0, "isTooNear", "(LFestivalgrid$Act;I)Z"⟩
abbrev cX0_take : ByteArray := prog_2_method_5_code
def yX0_take : MethodName := ⟨RX0, "take", "(LFestivalgrid$Wish;)V"⟩
abbrev cX0_withinStrength : ByteArray := prog_2_method_6_code
def yX0_withinStrength : MethodName := ⟨RX0, "withinStrength", "(I)I"⟩
def RX1 : String := "Festivalgrid$Storm"
def TX1 : u_T := fun k => match k with
  | 0 => ("Festivalgrid$Storm", "stage", "I", false)
  | 1 => ("Festivalgrid$Storm", "first", "I", false)
  | _ => ("Festivalgrid$Storm", "end", "I", false)
def tyX1 : Nat → FieldType := fun k => match k with
  | 0 => .int
  | 1 => .int
  | _ => .int
abbrev wsX10 : List Cond := u_ws RX1 TX1 3
theorem nmX1 : ∀ a, a < 3 → ∀ b, b < 3 → a ≠ b → (TX1 a).2.1 ≠ (TX1 b).2.1 := by decide +kernel
theorem tyX1_ok : ∀ k, k < 3 → parseFieldDescriptor (TX1 k).2.2.1 = some (tyX1 k) := by decide +kernel
abbrev cX1_init : ByteArray := prog_3_method_1_code
def yX1_init : MethodName := ⟨RX1, "<init>", "()V"⟩
abbrev cX1_hits : ByteArray := prog_3_method_2_code
def yX1_hits : MethodName := ⟨RX1, "hits", "(LFestivalgrid$Act;)Z"⟩
def RX2 : String := "Festivalgrid$Wish"
def TX2 : u_T := fun k => match k with
  | _ => ("", "", "", false)
def tyX2 : Nat → FieldType := fun k => match k with
  | _ => .int
abbrev wsX20 : List Cond := u_ws RX2 TX2 0
theorem nmX2 : ∀ a, a < 0 → ∀ b, b < 0 → a ≠ b → (TX2 a).2.1 ≠ (TX2 b).2.1 := by decide +kernel
theorem tyX2_ok : ∀ k, k < 0 → parseFieldDescriptor (TX2 k).2.2.1 = some (tyX2 k) := by decide +kernel
def RX3 : String := "Festivalgrid"
def TX3 : u_T := fun k => match k with
  | 0 => ("Festivalgrid", "sets", "[I", true)
  | 1 => ("Festivalgrid", "setCount", "I", false)
  | 2 => ("Festivalgrid", "changes", "[I", true)
  | 3 => ("Festivalgrid", "bounds", "[I", true)
  | 4 => ("Festivalgrid", "winds", "[I", true)
  | 5 => ("Festivalgrid", "acts", "[LFestivalgrid$Act;", true)
  | 6 => ("Festivalgrid", "actCount", "I", false)
  | 7 => ("Festivalgrid", "word", "Ljava/lang/StringBuilder;", true)
  | 8 => ("Festivalgrid", "storms", "[LFestivalgrid$Storm;", true)
  | 9 => ("Festivalgrid", "stormCount", "I", false)
  | 10 => ("Festivalgrid", "loads", "[I", true)
  | 11 => ("Festivalgrid", "noises", "[I", true)
  | 12 => ("Festivalgrid", "channelSet", "I", false)
  | _ => ("Festivalgrid", "channelsTouch", "Z", false)
def tyX3 : Nat → FieldType := fun k => match k with
  | 0 => .array .int
  | 1 => .int
  | 2 => .array .int
  | 3 => .array .int
  | 4 => .array .int
  | 5 => .array (.object "Festivalgrid$Act")
  | 6 => .int
  | 7 => .object "java/lang/StringBuilder"
  | 8 => .array (.object "Festivalgrid$Storm")
  | 9 => .int
  | 10 => .array .int
  | 11 => .array .int
  | 12 => .int
  | _ => .boolean
abbrev wsX30 : List Cond := u_ws RX3 TX3 14
theorem nmX3 : ∀ a, a < 14 → ∀ b, b < 14 → a ≠ b → (TX3 a).2.1 ≠ (TX3 b).2.1 := by decide +kernel
theorem tyX3_ok : ∀ k, k < 14 → parseFieldDescriptor (TX3 k).2.2.1 = some (tyX3 k) := by decide +kernel
abbrev cX3_init : ByteArray := prog_1_method_1_code
def yX3_init : MethodName := ⟨RX3, "<init>", "()V"⟩
abbrev cX3_startSet : ByteArray := prog_1_method_2_code
def yX3_startSet : MethodName := ⟨RX3, "startSet", "(I)I"⟩
abbrev cX3_setChange : ByteArray := prog_1_method_3_code
def yX3_setChange : MethodName := ⟨RX3, "setChange", "(II)Z"⟩
abbrev cX3_setBound : ByteArray := prog_1_method_4_code
def yX3_setBound : MethodName := ⟨RX3, "setBound", "(II)Z"⟩
abbrev cX3_setWind : ByteArray := prog_1_method_5_code
def yX3_setWind : MethodName := ⟨RX3, "setWind", "(II)Z"⟩
abbrev cX3_plan : ByteArray := prog_1_method_6_code
def yX3_plan : MethodName := ⟨RX3, "plan", "(IIIIIII)I"⟩
abbrev cX3_reason : ByteArray := prog_1_method_7_code
def yX3_reason : MethodName := ⟨RX3, "reason", "(IIIIIII)I"⟩
abbrev cX3_move : ByteArray := prog_1_method_8_code
def yX3_move : MethodName := ⟨RX3, "move", "(II)Z"⟩
abbrev cX3_drop : ByteArray := prog_1_method_9_code
def yX3_drop : MethodName := ⟨RX3, "drop", "(I)V"⟩
abbrev cX3_start : ByteArray := prog_1_method_10_code
def yX3_start : MethodName := ⟨RX3, "start", "(I)I"⟩
abbrev cX3_firstStart : ByteArray := prog_1_method_11_code
def yX3_firstStart : MethodName := ⟨RX3, "firstStart", "(II)I"⟩
abbrev cX3_type : ByteArray := prog_1_method_12_code
def yX3_type : MethodName := ⟨RX3, "type", "(C)I"⟩
abbrev cX3_wipe : ByteArray := prog_1_method_13_code
def yX3_wipe : MethodName := ⟨RX3, "wipe", "()I"⟩
abbrev cX3_grant : ByteArray := prog_1_method_14_code
def yX3_grant : MethodName := ⟨RX3, "grant", "(I)Z"⟩
abbrev cX3_ofAct : ByteArray := prog_1_method_15_code
def yX3_ofAct : MethodName := ⟨RX3, "ofAct", "(II)I"⟩
abbrev cX3_storm : ByteArray := prog_1_method_16_code
def yX3_storm : MethodName := ⟨RX3, "storm", "(III)I"⟩
abbrev cX3_load : ByteArray := prog_1_method_17_code
def yX3_load : MethodName := ⟨RX3, "load", "(II)I"⟩
abbrev cX3_noise : ByteArray := prog_1_method_18_code
def yX3_noise : MethodName := ⟨RX3, "noise", "(II)I"⟩
abbrev cX3_channels : ByteArray := prog_1_method_19_code
def yX3_channels : MethodName := ⟨RX3, "channels", "(I)I"⟩
abbrev cX3_isFineByMinutes : ByteArray := prog_1_method_20_code
def yX3_isFineByMinutes : MethodName := ⟨RX3, "isFineByMinutes", "()Z"⟩
abbrev cX3_requireRange : ByteArray := prog_1_method_21_code
def yX3_requireRange : MethodName := ⟨RX3, "requireRange", "(III)V"⟩
abbrev cX3_requireMinute : ByteArray := prog_1_method_22_code
def yX3_requireMinute : MethodName := ⟨RX3, "requireMinute", "(I)V"⟩
abbrev cX3_requireStage : ByteArray := prog_1_method_23_code
def yX3_requireStage : MethodName := ⟨RX3, "requireStage", "(I)V"⟩
abbrev cX3_requireHouse : ByteArray := prog_1_method_24_code
def yX3_requireHouse : MethodName := ⟨RX3, "requireHouse", "(I)V"⟩
abbrev cX3_requirePhase : ByteArray := prog_1_method_25_code
def yX3_requirePhase : MethodName := ⟨RX3, "requirePhase", "(I)V"⟩
abbrev cX3_requireAct : ByteArray := prog_1_method_26_code
def yX3_requireAct : MethodName := ⟨RX3, "requireAct", "(I)V"⟩
abbrev cX3_requirePlanned : ByteArray := prog_1_method_27_code
def yX3_requirePlanned : MethodName := ⟨RX3, "requirePlanned", "(I)V"⟩
abbrev cX3_tryAct : ByteArray := prog_1_method_28_code
def yX3_tryAct : MethodName := ⟨RX3, "tryAct", "(IIIIIII)LFestivalgrid$Act;"⟩
abbrev cX3_isStageFine : ByteArray := prog_1_method_29_code
def yX3_isStageFine : MethodName := ⟨RX3, "isStageFine", "(I)Z"⟩
abbrev cX3_fitsOnStage : ByteArray := prog_1_method_30_code
def yX3_fitsOnStage : MethodName := ⟨RX3, "fitsOnStage", "(LFestivalgrid$Act;)Z"⟩
abbrev cX3_areStagesFineAt : ByteArray := prog_1_method_31_code
def yX3_areStagesFineAt : MethodName := ⟨RX3, "areStagesFineAt", "(I)Z"⟩
abbrev cX3_isStormyAt : ByteArray := prog_1_method_32_code
def yX3_isStormyAt : MethodName := ⟨RX3, "isStormyAt", "(II)Z"⟩
abbrev cX3_isHeldByAnother : ByteArray := prog_1_method_33_code
def yX3_isHeldByAnother : MethodName := ⟨RX3, "isHeldByAnother", "(LFestivalgrid$Act;I)Z"⟩
abbrev cX3_brokenBy : ByteArray := prog_1_method_34_code
def yX3_brokenBy : MethodName := ⟨RX3, "brokenBy", "(LFestivalgrid$Act;)I"⟩
abbrev cX3_brokenWithin : ByteArray := prog_1_method_35_code
def yX3_brokenWithin : MethodName := ⟨RX3, "brokenWithin", "(II)I"⟩
abbrev cX3_brokenAt : ByteArray := prog_1_method_36_code
def yX3_brokenAt : MethodName := ⟨RX3, "brokenAt", "(I)I"⟩
abbrev cX3_setsAt : ByteArray := prog_1_method_37_code
def yX3_setsAt : MethodName := ⟨RX3, "setsAt", "(I)I"⟩
abbrev cX3_hasMiddleChannel : ByteArray := prog_1_method_38_code
def yX3_hasMiddleChannel : MethodName := ⟨RX3, "hasMiddleChannel", "(I)Z"⟩
abbrev cX3_hasPairAround : ByteArray := prog_1_method_39_code
def yX3_hasPairAround : MethodName := ⟨RX3, "hasPairAround", "(II)Z"⟩
abbrev cX3_hasChannel : ByteArray := prog_1_method_40_code
def yX3_hasChannel : MethodName := ⟨RX3, "hasChannel", "(II)Z"⟩
abbrev cX3_lookAt : ByteArray := prog_1_method_41_code
def yX3_lookAt : MethodName := ⟨RX3, "lookAt", "(I)V"⟩
abbrev cX3_addToLook : ByteArray := prog_1_method_42_code
def yX3_addToLook : MethodName := ⟨RX3, "addToLook", "(LFestivalgrid$Act;I)V"⟩
abbrev cX3_firstFineStart : ByteArray := prog_1_method_43_code
def yX3_firstFineStart : MethodName := ⟨RX3, "firstFineStart", "(LFestivalgrid$Act;I)I"⟩
abbrev cX3_callOff : ByteArray := prog_1_method_44_code
def yX3_callOff : MethodName := ⟨RX3, "callOff", "(LFestivalgrid$Storm;)V"⟩
abbrev cX3_replan : ByteArray := prog_1_method_45_code
def yX3_replan : MethodName := ⟨RX3, "replan", "(I)I"⟩
abbrev cX3_earliestWaiting : ByteArray := prog_1_method_46_code
def yX3_earliestWaiting : MethodName := ⟨RX3, "earliestWaiting", "()LFestivalgrid$Act;"⟩
abbrev cX3_typedWish : ByteArray := prog_1_method_47_code
def yX3_typedWish : MethodName := ⟨RX3, "typedWish", "()LFestivalgrid$Wish;"⟩
def RX4 : String := "FestivalgridModel"
def TX4 : u_T := fun k => match k with
  | 0 => ("FestivalgridModel", "sets", "I", false)
  | 1 => ("FestivalgridModel", "begun", "[I", true)
  | 2 => ("FestivalgridModel", "change", "[I", true)
  | 3 => ("FestivalgridModel", "bound", "[I", true)
  | 4 => ("FestivalgridModel", "wind", "[I", true)
  | 5 => ("FestivalgridModel", "acts", "I", false)
  | 6 => ("FestivalgridModel", "stage", "[I", true)
  | 7 => ("FestivalgridModel", "start", "[I", true)
  | 8 => ("FestivalgridModel", "length", "[I", true)
  | 9 => ("FestivalgridModel", "phase", "[I", true)
  | 10 => ("FestivalgridModel", "draw", "[I", true)
  | 11 => ("FestivalgridModel", "loud", "[I", true)
  | 12 => ("FestivalgridModel", "channel", "[I", true)
  | 13 => ("FestivalgridModel", "on", "[Z", true)
  | 14 => ("FestivalgridModel", "word", "I", false)
  | 15 => ("FestivalgridModel", "letters", "I", false)
  | 16 => ("FestivalgridModel", "storms", "I", false)
  | 17 => ("FestivalgridModel", "where", "[I", true)
  | 18 => ("FestivalgridModel", "from", "[I", true)
  | 19 => ("FestivalgridModel", "behind", "[I", true)
  | 20 => ("FestivalgridModel", "heard", "[I", true)
  | _ => ("FestivalgridModel", "thrown", "I", false)
def tyX4 : Nat → FieldType := fun k => match k with
  | 0 => .int
  | 1 => .array .int
  | 2 => .array .int
  | 3 => .array .int
  | 4 => .array .int
  | 5 => .int
  | 6 => .array .int
  | 7 => .array .int
  | 8 => .array .int
  | 9 => .array .int
  | 10 => .array .int
  | 11 => .array .int
  | 12 => .array .int
  | 13 => .array .boolean
  | 14 => .int
  | 15 => .int
  | 16 => .int
  | 17 => .array .int
  | 18 => .array .int
  | 19 => .array .int
  | 20 => .array .int
  | _ => .int
abbrev wsX40 : List Cond := u_ws RX4 TX4 22
theorem nmX4 : ∀ a, a < 22 → ∀ b, b < 22 → a ≠ b → (TX4 a).2.1 ≠ (TX4 b).2.1 := by decide +kernel
theorem tyX4_ok : ∀ k, k < 22 → parseFieldDescriptor (TX4 k).2.2.1 = some (tyX4 k) := by decide +kernel
abbrev cX4_init : ByteArray := prog_6_method_1_code
def yX4_init : MethodName := ⟨RX4, "<init>", "()V"⟩
abbrev cX4_thrown : ByteArray := prog_6_method_2_code
def yX4_thrown : MethodName := ⟨RX4, "thrown", "()I"⟩
abbrev cX4_isIn : ByteArray := prog_6_method_3_code
def yX4_isIn : MethodName := ⟨RX4, "isIn", "(III)Z"⟩
abbrev cX4_isMinute : ByteArray := prog_6_method_4_code
def yX4_isMinute : MethodName := ⟨RX4, "isMinute", "(I)Z"⟩
abbrev cX4_isThree : ByteArray := prog_6_method_5_code
def yX4_isThree : MethodName := ⟨RX4, "isThree", "(I)Z"⟩
abbrev cX4_plays : ByteArray := prog_6_method_6_code
def yX4_plays : MethodName := ⟨RX4, "plays", "(II)Z"⟩
abbrev cX4_loaded : ByteArray := prog_6_method_7_code
def yX4_loaded : MethodName := ⟨RX4, "loaded", "(II)I"⟩
abbrev cX4_noisy : ByteArray := prog_6_method_8_code
def yX4_noisy : MethodName := ⟨RX4, "noisy", "(II)I"⟩
abbrev cX4_isPlaced : ByteArray := prog_6_method_9_code
def yX4_isPlaced : MethodName := ⟨RX4, "isPlaced", "()Z"⟩
abbrev cX4_isFed : ByteArray := prog_6_method_10_code
def yX4_isFed : MethodName := ⟨RX4, "isFed", "(I)Z"⟩
abbrev cX4_speaks : ByteArray := prog_6_method_11_code
def yX4_speaks : MethodName := ⟨RX4, "speaks", "(II)Z"⟩
abbrev cX4_isClear : ByteArray := prog_6_method_12_code
def yX4_isClear : MethodName := ⟨RX4, "isClear", "(I)Z"⟩
abbrev cX4_isQuiet : ByteArray := prog_6_method_13_code
def yX4_isQuiet : MethodName := ⟨RX4, "isQuiet", "(I)Z"⟩
abbrev cX4_wrong : ByteArray := prog_6_method_14_code
def yX4_wrong : MethodName := ⟨RX4, "wrong", "()I"⟩
abbrev cX4_startSet : ByteArray := prog_6_method_15_code
def yX4_startSet : MethodName := ⟨RX4, "startSet", "(I)I"⟩
abbrev cX4_setChange : ByteArray := prog_6_method_16_code
def yX4_setChange : MethodName := ⟨RX4, "setChange", "(II)Z"⟩
abbrev cX4_setBound : ByteArray := prog_6_method_17_code
def yX4_setBound : MethodName := ⟨RX4, "setBound", "(II)Z"⟩
abbrev cX4_setWind : ByteArray := prog_6_method_18_code
def yX4_setWind : MethodName := ⟨RX4, "setWind", "(II)Z"⟩
abbrev cX4_lays : ByteArray := prog_6_method_19_code
def yX4_lays : MethodName := ⟨RX4, "lays", "(IIIIIII)I"⟩
abbrev cX4_plan : ByteArray := prog_6_method_20_code
def yX4_plan : MethodName := ⟨RX4, "plan", "(IIIIIII)I"⟩
abbrev cX4_reason : ByteArray := prog_6_method_21_code
def yX4_reason : MethodName := ⟨RX4, "reason", "(IIIIIII)I"⟩
abbrev cX4_isAct : ByteArray := prog_6_method_22_code
def yX4_isAct : MethodName := ⟨RX4, "isAct", "(I)Z"⟩
abbrev cX4_move : ByteArray := prog_6_method_23_code
def yX4_move : MethodName := ⟨RX4, "move", "(II)Z"⟩
abbrev cX4_drop : ByteArray := prog_6_method_24_code
def yX4_drop : MethodName := ⟨RX4, "drop", "(I)V"⟩
abbrev cX4_start : ByteArray := prog_6_method_25_code
def yX4_start : MethodName := ⟨RX4, "start", "(I)I"⟩
abbrev cX4_finds : ByteArray := prog_6_method_26_code
def yX4_finds : MethodName := ⟨RX4, "finds", "(II)I"⟩
abbrev cX4_firstStart : ByteArray := prog_6_method_27_code
def yX4_firstStart : MethodName := ⟨RX4, "firstStart", "(II)I"⟩
abbrev cX4_type : ByteArray := prog_6_method_28_code
def yX4_type : MethodName := ⟨RX4, "type", "(C)I"⟩
abbrev cX4_wipe : ByteArray := prog_6_method_29_code
def yX4_wipe : MethodName := ⟨RX4, "wipe", "()I"⟩
abbrev cX4_spelt : ByteArray := prog_6_method_30_code
def yX4_spelt : MethodName := ⟨RX4, "spelt", "(CCCCC)I"⟩
abbrev cX4_wish : ByteArray := prog_6_method_31_code
def yX4_wish : MethodName := ⟨RX4, "wish", "()I"⟩
abbrev cX4_bounded : ByteArray := prog_6_method_32_code
def yX4_bounded : MethodName := ⟨RX4, "bounded", "(I)I"⟩
abbrev cX4_grant : ByteArray := prog_6_method_33_code
def yX4_grant : MethodName := ⟨RX4, "grant", "(I)Z"⟩
abbrev cX4_ofAct : ByteArray := prog_6_method_34_code
def yX4_ofAct : MethodName := ⟨RX4, "ofAct", "(II)I"⟩
abbrev cX4_next : ByteArray := prog_6_method_35_code
def yX4_next : MethodName := ⟨RX4, "next", "(II)I"⟩
abbrev cX4_storm : ByteArray := prog_6_method_36_code
def yX4_storm : MethodName := ⟨RX4, "storm", "(III)I"⟩
abbrev cX4_load : ByteArray := prog_6_method_37_code
def yX4_load : MethodName := ⟨RX4, "load", "(II)I"⟩
abbrev cX4_noise : ByteArray := prog_6_method_38_code
def yX4_noise : MethodName := ⟨RX4, "noise", "(II)I"⟩
abbrev cX4_channels : ByteArray := prog_6_method_39_code
def yX4_channels : MethodName := ⟨RX4, "channels", "(I)I"⟩
abbrev cX4_isFineByMinutes : ByteArray := prog_6_method_40_code
def yX4_isFineByMinutes : MethodName := ⟨RX4, "isFineByMinutes", "()Z"⟩
def RJx145de : String := "java/io/Serializable"
def TJx145de : u_T := fun k => match k with
  | _ => ("", "", "", false)
def tyJx145de : Nat → FieldType := fun k => match k with
  | _ => .int
abbrev wsJx145de0 : List Cond := u_ws RJx145de TJx145de 0
theorem nmJx145de : ∀ a, a < 0 → ∀ b, b < 0 → a ≠ b → (TJx145de a).2.1 ≠ (TJx145de b).2.1 := by decide +kernel
theorem tyJx145de_ok : ∀ k, k < 0 → parseFieldDescriptor (TJx145de k).2.2.1 = some (tyJx145de k) := by decide +kernel
def RJ5 : String := "java/lang/AbstractStringBuilder"
def TJ5 : u_T := fun k => match k with
  | _ => ("", "", "", false)
def tyJ5 : Nat → FieldType := fun k => match k with
  | _ => .int
abbrev wsJ50 : List Cond := u_ws RJ5 TJ5 0
theorem nmJ5 : ∀ a, a < 0 → ∀ b, b < 0 → a ≠ b → (TJ5 a).2.1 ≠ (TJ5 b).2.1 := by decide +kernel
theorem tyJ5_ok : ∀ k, k < 0 → parseFieldDescriptor (TJ5 k).2.2.1 = some (tyJ5 k) := by decide +kernel
abbrev cJ5_init_d00df : ByteArray := prog_7_method_2_code
def yJ5_init_d00df : MethodName := ⟨RJ5, "<init>", "(I)V"⟩
abbrev cJ5_length_8abf5 : ByteArray := prog_7_method_6_code
def yJ5_length_8abf5 : MethodName := ⟨RJ5, "length", "()I"⟩
abbrev cJ5_ensureCapacityInternal_d00df : ByteArray := prog_7_method_9_code
def yJ5_ensureCapacityInternal_d00df : MethodName := ⟨RJ5, "ensureCapacityInternal", "(I)V"⟩
abbrev cJ5_newCapacity_0f7a4 : ByteArray := prog_7_method_10_code
def yJ5_newCapacity_0f7a4 : MethodName := ⟨RJ5, "newCapacity", "(I)I"⟩
abbrev cJ5_inflate_da8c8 : ByteArray := prog_7_method_11_code
def yJ5_inflate_da8c8 : MethodName := ⟨RJ5, "inflate", "()V"⟩
abbrev cJ5_setLength_d00df : ByteArray := prog_7_method_13_code
def yJ5_setLength_d00df : MethodName := ⟨RJ5, "setLength", "(I)V"⟩
abbrev cJ5_append_cf1ce : ByteArray := prog_7_method_22_code
def yJ5_append_cf1ce : MethodName := ⟨RJ5, "append", "(Ljava/lang/String;)Ljava/lang/AbstractStringBuilder;"⟩
abbrev cJ5_appendNull_278bc : ByteArray := prog_7_method_26_code
def yJ5_appendNull_278bc : MethodName := ⟨RJ5, "appendNull", "()Ljava/lang/AbstractStringBuilder;"⟩
abbrev cJ5_append_3fe6f : ByteArray := prog_7_method_31_code
def yJ5_append_3fe6f : MethodName := ⟨RJ5, "append", "(C)Ljava/lang/AbstractStringBuilder;"⟩
abbrev cJ5_append_c97b9 : ByteArray := prog_7_method_32_code
def yJ5_append_c97b9 : MethodName := ⟨RJ5, "append", "(I)Ljava/lang/AbstractStringBuilder;"⟩
abbrev cJ5_getValue_6d5f1 : ByteArray := prog_7_method_64_code
def yJ5_getValue_6d5f1 : MethodName := ⟨RJ5, "getValue", "()[B"⟩
abbrev cJ5_isLatin1_aae02 : ByteArray := prog_7_method_68_code
def yJ5_isLatin1_aae02 : MethodName := ⟨RJ5, "isLatin1", "()Z"⟩
abbrev cJ5_inflateIfNeededFor_a7421 : ByteArray := prog_7_method_71_code
def yJ5_inflateIfNeededFor_a7421 : MethodName := ⟨RJ5, "inflateIfNeededFor", "(Ljava/lang/String;)V"⟩
abbrev cJ5_putStringAt_47b60 : ByteArray := prog_7_method_73_code
def yJ5_putStringAt_47b60 : MethodName := ⟨RJ5, "putStringAt", "(ILjava/lang/String;)V"⟩
def RJx2cfe8 : String := "java/lang/Appendable"
def TJx2cfe8 : u_T := fun k => match k with
  | _ => ("", "", "", false)
def tyJx2cfe8 : Nat → FieldType := fun k => match k with
  | _ => .int
abbrev wsJx2cfe80 : List Cond := u_ws RJx2cfe8 TJx2cfe8 0
theorem nmJx2cfe8 : ∀ a, a < 0 → ∀ b, b < 0 → a ≠ b → (TJx2cfe8 a).2.1 ≠ (TJx2cfe8 b).2.1 := by decide +kernel
theorem tyJx2cfe8_ok : ∀ k, k < 0 → parseFieldDescriptor (TJx2cfe8 k).2.2.1 = some (tyJx2cfe8 k) := by decide +kernel
def RJx00060 : String := "java/lang/ArrayIndexOutOfBoundsException"
def TJx00060 : u_T := fun k => match k with
  | 0 => ("java/lang/Throwable", "cause", "Ljava/lang/Throwable;", false)
  | 1 => ("java/lang/Throwable", "stackTrace", "[Ljava/lang/StackTraceElement;", false)
  | 2 => ("java/lang/Throwable", "suppressedExceptions", "Ljava/util/List;", false)
  | 3 => ("java/lang/Throwable", "detailMessage", "Ljava/lang/String;", false)
  | 4 => ("java/lang/Throwable", "backtrace", "Ljava/lang/Object;", false)
  | _ => ("java/lang/Throwable", "depth", "I", false)
def tyJx00060 : Nat → FieldType := fun k => match k with
  | 0 => .object "java/lang/Throwable"
  | 1 => .array (.object "java/lang/StackTraceElement")
  | 2 => .object "java/util/List"
  | 3 => .object "java/lang/String"
  | 4 => .object "java/lang/Object"
  | _ => .int
abbrev wsJx000600 : List Cond := u_ws RJx00060 TJx00060 6
theorem nmJx00060 : ∀ a, a < 6 → ∀ b, b < 6 → a ≠ b → (TJx00060 a).2.1 ≠ (TJx00060 b).2.1 := by decide +kernel
theorem tyJx00060_ok : ∀ k, k < 6 → parseFieldDescriptor (TJx00060 k).2.2.1 = some (tyJx00060 k) := by decide +kernel
abbrev cJx00060_init_d00df : ByteArray := prog_8_method_3_code
def yJx00060_init_d00df : MethodName := ⟨RJx00060, "<init>", "(I)V"⟩
def RJx9f9b0 : String := "java/lang/CharSequence"
def TJx9f9b0 : u_T := fun k => match k with
  | _ => ("", "", "", false)
def tyJx9f9b0 : Nat → FieldType := fun k => match k with
  | _ => .int
abbrev wsJx9f9b00 : List Cond := u_ws RJx9f9b0 TJx9f9b0 0
theorem nmJx9f9b0 : ∀ a, a < 0 → ∀ b, b < 0 → a ≠ b → (TJx9f9b0 a).2.1 ≠ (TJx9f9b0 b).2.1 := by decide +kernel
theorem tyJx9f9b0_ok : ∀ k, k < 0 → parseFieldDescriptor (TJx9f9b0 k).2.2.1 = some (tyJx9f9b0 k) := by decide +kernel
def RJx8e188 : String := "java/lang/Cloneable"
def TJx8e188 : u_T := fun k => match k with
  | _ => ("", "", "", false)
def tyJx8e188 : Nat → FieldType := fun k => match k with
  | _ => .int
abbrev wsJx8e1880 : List Cond := u_ws RJx8e188 TJx8e188 0
theorem nmJx8e188 : ∀ a, a < 0 → ∀ b, b < 0 → a ≠ b → (TJx8e188 a).2.1 ≠ (TJx8e188 b).2.1 := by decide +kernel
theorem tyJx8e188_ok : ∀ k, k < 0 → parseFieldDescriptor (TJx8e188 k).2.2.1 = some (tyJx8e188 k) := by decide +kernel
def RJxb160c : String := "java/lang/Comparable"
def TJxb160c : u_T := fun k => match k with
  | _ => ("", "", "", false)
def tyJxb160c : Nat → FieldType := fun k => match k with
  | _ => .int
abbrev wsJxb160c0 : List Cond := u_ws RJxb160c TJxb160c 0
theorem nmJxb160c : ∀ a, a < 0 → ∀ b, b < 0 → a ≠ b → (TJxb160c a).2.1 ≠ (TJxb160c b).2.1 := by decide +kernel
theorem tyJxb160c_ok : ∀ k, k < 0 → parseFieldDescriptor (TJxb160c k).2.2.1 = some (tyJxb160c k) := by decide +kernel
def RJx29ce0 : String := "java/lang/Enum"
def TJx29ce0 : u_T := fun k => match k with
  | _ => ("", "", "", false)
def tyJx29ce0 : Nat → FieldType := fun k => match k with
  | _ => .int
abbrev wsJx29ce00 : List Cond := u_ws RJx29ce0 TJx29ce0 0
theorem nmJx29ce0 : ∀ a, a < 0 → ∀ b, b < 0 → a ≠ b → (TJx29ce0 a).2.1 ≠ (TJx29ce0 b).2.1 := by decide +kernel
theorem tyJx29ce0_ok : ∀ k, k < 0 → parseFieldDescriptor (TJx29ce0 k).2.2.1 = some (tyJx29ce0 k) := by decide +kernel
def RJ6 : String := "java/lang/Integer"
def TJ6 : u_T := fun k => match k with
  | _ => ("", "", "", false)
def tyJ6 : Nat → FieldType := fun k => match k with
  | _ => .int
abbrev wsJ60 : List Cond := u_ws RJ6 TJ6 0
theorem nmJ6 : ∀ a, a < 0 → ∀ b, b < 0 → a ≠ b → (TJ6 a).2.1 ≠ (TJ6 b).2.1 := by decide +kernel
theorem tyJ6_ok : ∀ k, k < 0 → parseFieldDescriptor (TJ6 k).2.2.1 = some (tyJ6 k) := by decide +kernel
abbrev cJ6_getChars_ba4f3 : ByteArray := prog_15_method_12_code
def yJ6_getChars_ba4f3 : MethodName := ⟨RJ6, "getChars", "(II[B)I"⟩
abbrev cJ6_stringSize_0f7a4 : ByteArray := prog_15_method_13_code
def yJ6_stringSize_0f7a4 : MethodName := ⟨RJ6, "stringSize", "(I)I"⟩
abbrev cJ6_bitCount_0f7a4 : ByteArray := prog_15_method_49_code
def yJ6_bitCount_0f7a4 : MethodName := ⟨RJ6, "bitCount", "(I)I"⟩
def RJ9 : String := "java/lang/Math"
def TJ9 : u_T := fun k => match k with
  | _ => ("", "", "", false)
def tyJ9 : Nat → FieldType := fun k => match k with
  | _ => .int
abbrev wsJ90 : List Cond := u_ws RJ9 TJ9 0
theorem nmJ9 : ∀ a, a < 0 → ∀ b, b < 0 → a ≠ b → (TJ9 a).2.1 ≠ (TJ9 b).2.1 := by decide +kernel
theorem tyJ9_ok : ∀ k, k < 0 → parseFieldDescriptor (TJ9 k).2.2.1 = some (tyJ9 k) := by decide +kernel
abbrev cJ9_abs_0f7a4 : ByteArray := prog_16_method_59_code
def yJ9_abs_0f7a4 : MethodName := ⟨RJ9, "abs", "(I)I"⟩
abbrev cJ9_max_7cf53 : ByteArray := prog_16_method_65_code
def yJ9_max_7cf53 : MethodName := ⟨RJ9, "max", "(II)I"⟩
abbrev cJ9_min_7cf53 : ByteArray := prog_16_method_69_code
def yJ9_min_7cf53 : MethodName := ⟨RJ9, "min", "(II)I"⟩
def RJxd2413 : String := "java/lang/Number"
def TJxd2413 : u_T := fun k => match k with
  | _ => ("", "", "", false)
def tyJxd2413 : Nat → FieldType := fun k => match k with
  | _ => .int
abbrev wsJxd24130 : List Cond := u_ws RJxd2413 TJxd2413 0
theorem nmJxd2413 : ∀ a, a < 0 → ∀ b, b < 0 → a ≠ b → (TJxd2413 a).2.1 ≠ (TJxd2413 b).2.1 := by decide +kernel
theorem tyJxd2413_ok : ∀ k, k < 0 → parseFieldDescriptor (TJxd2413 k).2.2.1 = some (tyJxd2413 k) := by decide +kernel
def RJ0 : String := "java/lang/String"
def TJ0 : u_T := fun k => match k with
  | 0 => ("java/lang/String", "value", "[B", true)
  | 1 => ("java/lang/String", "coder", "B", true)
  | 2 => ("java/lang/String", "hash", "I", false)
  | _ => ("java/lang/String", "hashIsZero", "Z", false)
def tyJ0 : Nat → FieldType := fun k => match k with
  | 0 => .array .byte
  | 1 => .byte
  | 2 => .int
  | _ => .boolean
abbrev wsJ00 : List Cond := u_ws RJ0 TJ0 4
theorem nmJ0 : ∀ a, a < 4 → ∀ b, b < 4 → a ≠ b → (TJ0 a).2.1 ≠ (TJ0 b).2.1 := by decide +kernel
theorem tyJ0_ok : ∀ k, k < 4 → parseFieldDescriptor (TJ0 k).2.2.1 = some (tyJ0 k) := by decide +kernel
abbrev cJ0_init_81219 : ByteArray := prog_19_method_53_code
def yJ0_init_81219 : MethodName := ⟨RJ0, "<init>", "(Ljava/lang/StringBuilder;)V"⟩
abbrev cJ0_length_8abf5 : ByteArray := prog_19_method_54_code
def yJ0_length_8abf5 : MethodName := ⟨RJ0, "length", "()I"⟩
abbrev cJ0_equals_9ea2d : ByteArray := prog_19_method_66_code
def yJ0_equals_9ea2d : MethodName := ⟨RJ0, "equals", "(Ljava/lang/Object;)Z"⟩
abbrev cJ0_getBytes_840e7 : ByteArray := prog_19_method_147_code
def yJ0_getBytes_840e7 : MethodName := ⟨RJ0, "getBytes", "([BIB)V"⟩
abbrev cJ0_init_db425 : ByteArray := prog_19_method_150_code
def yJ0_init_db425 : MethodName := ⟨RJ0, "<init>", "(Ljava/lang/AbstractStringBuilder;Ljava/lang/Void;)V"⟩
abbrev cJ0_coder_7d493 : ByteArray := prog_19_method_152_code
def yJ0_coder_7d493 : MethodName := ⟨RJ0, "coder", "()B"⟩
abbrev cJ0_checkIndex_df160 : ByteArray := prog_19_method_155_code
def yJ0_checkIndex_df160 : MethodName := ⟨RJ0, "checkIndex", "(II)V"⟩
abbrev cJ0_checkBoundsOffCount_cabcc : ByteArray := prog_19_method_157_code
def yJ0_checkBoundsOffCount_cabcc : MethodName := ⟨RJ0, "checkBoundsOffCount", "(III)I"⟩
abbrev cJ0_checkBoundsBeginEnd_23922 : ByteArray := prog_19_method_158_code
def yJ0_checkBoundsBeginEnd_23922 : MethodName := ⟨RJ0, "checkBoundsBeginEnd", "(III)V"⟩
def RJ4 : String := "java/lang/StringBuilder"
def TJ4 : u_T := fun k => match k with
  | 0 => ("java/lang/AbstractStringBuilder", "value", "[B", false)
  | 1 => ("java/lang/AbstractStringBuilder", "coder", "B", false)
  | 2 => ("java/lang/AbstractStringBuilder", "maybeLatin1", "Z", false)
  | _ => ("java/lang/AbstractStringBuilder", "count", "I", false)
def tyJ4 : Nat → FieldType := fun k => match k with
  | 0 => .array .byte
  | 1 => .byte
  | 2 => .boolean
  | _ => .int
abbrev wsJ40 : List Cond := u_ws RJ4 TJ4 4
theorem nmJ4 : ∀ a, a < 4 → ∀ b, b < 4 → a ≠ b → (TJ4 a).2.1 ≠ (TJ4 b).2.1 := by decide +kernel
theorem tyJ4_ok : ∀ k, k < 4 → parseFieldDescriptor (TJ4 k).2.2.1 = some (tyJ4 k) := by decide +kernel
abbrev cJ4_init_da8c8 : ByteArray := prog_20_method_1_code
def yJ4_init_da8c8 : MethodName := ⟨RJ4, "<init>", "()V"⟩
abbrev cJ4_append_15ec4 : ByteArray := prog_20_method_7_code
def yJ4_append_15ec4 : MethodName := ⟨RJ4, "append", "(Ljava/lang/String;)Ljava/lang/StringBuilder;"⟩
abbrev cJ4_append_cf468 : ByteArray := prog_20_method_14_code
def yJ4_append_cf468 : MethodName := ⟨RJ4, "append", "(C)Ljava/lang/StringBuilder;"⟩
abbrev cJ4_append_bf812 : ByteArray := prog_20_method_15_code
def yJ4_append_bf812 : MethodName := ⟨RJ4, "append", "(I)Ljava/lang/StringBuilder;"⟩
abbrev cJ4_toString_0e30d : ByteArray := prog_20_method_42_code
def yJ4_toString_0e30d : MethodName := ⟨RJ4, "toString", "()Ljava/lang/String;"⟩
abbrev cJ4_setLength_d00df : ByteArray := prog_20_method_89_code
def yJ4_setLength_d00df : MethodName := ⟨RJ4, "setLength", "(I)V"⟩
abbrev cJ4_length_8abf5 : ByteArray := prog_20_method_93_code
def yJ4_length_8abf5 : MethodName := ⟨RJ4, "length", "()I"⟩
def RJx7c733 : String := "java/lang/StringIndexOutOfBoundsException"
def TJx7c733 : u_T := fun k => match k with
  | 0 => ("java/lang/Throwable", "backtrace", "Ljava/lang/Object;", false)
  | 1 => ("java/lang/Throwable", "detailMessage", "Ljava/lang/String;", false)
  | 2 => ("java/lang/Throwable", "cause", "Ljava/lang/Throwable;", false)
  | 3 => ("java/lang/Throwable", "stackTrace", "[Ljava/lang/StackTraceElement;", false)
  | 4 => ("java/lang/Throwable", "depth", "I", false)
  | _ => ("java/lang/Throwable", "suppressedExceptions", "Ljava/util/List;", false)
def tyJx7c733 : Nat → FieldType := fun k => match k with
  | 0 => .object "java/lang/Object"
  | 1 => .object "java/lang/String"
  | 2 => .object "java/lang/Throwable"
  | 3 => .array (.object "java/lang/StackTraceElement")
  | 4 => .int
  | _ => .object "java/util/List"
abbrev wsJx7c7330 : List Cond := u_ws RJx7c733 TJx7c733 6
theorem nmJx7c733 : ∀ a, a < 6 → ∀ b, b < 6 → a ≠ b → (TJx7c733 a).2.1 ≠ (TJx7c733 b).2.1 := by decide +kernel
theorem tyJx7c733_ok : ∀ k, k < 6 → parseFieldDescriptor (TJx7c733 k).2.2.1 = some (tyJx7c733 k) := by decide +kernel
abbrev cJx7c733_init_d00df : ByteArray := prog_21_method_3_code
def yJx7c733_init_d00df : MethodName := ⟨RJx7c733, "<init>", "(I)V"⟩
def RJ1 : String := "java/lang/StringLatin1"
def TJ1 : u_T := fun k => match k with
  | _ => ("", "", "", false)
def tyJ1 : Nat → FieldType := fun k => match k with
  | _ => .int
abbrev wsJ10 : List Cond := u_ws RJ1 TJ1 0
theorem nmJ1 : ∀ a, a < 0 → ∀ b, b < 0 → a ≠ b → (TJ1 a).2.1 ≠ (TJ1 b).2.1 := by decide +kernel
theorem tyJ1_ok : ∀ k, k < 0 → parseFieldDescriptor (TJ1 k).2.2.1 = some (tyJ1 k) := by decide +kernel
abbrev cJ1_canEncode_fc78d : ByteArray := prog_22_method_3_code
def yJ1_canEncode_fc78d : MethodName := ⟨RJ1, "canEncode", "(C)Z"⟩
abbrev cJ1_equals_b5fdf : ByteArray := prog_22_method_13_code
def yJ1_equals_b5fdf : MethodName := ⟨RJ1, "equals", "([B[B)Z"⟩
abbrev cJ1_fillNull_b72d1 : ByteArray := prog_22_method_48_code
def yJ1_fillNull_b72d1 : MethodName := ⟨RJ1, "fillNull", "([BII)V"⟩
abbrev cJ1_inflate_0e8fd : ByteArray := prog_22_method_50_code
def yJ1_inflate_0e8fd : MethodName := ⟨RJ1, "inflate", "([BI[BII)V"⟩
def RJ2 : String := "java/lang/StringUTF16"
def TJ2 : u_T := fun k => match k with
  | _ => ("", "", "", false)
def tyJ2 : Nat → FieldType := fun k => match k with
  | _ => .int
abbrev wsJ20 : List Cond := u_ws RJ2 TJ2 0
theorem nmJ2 : ∀ a, a < 0 → ∀ b, b < 0 → a ≠ b → (TJ2 a).2.1 ≠ (TJ2 b).2.1 := by decide +kernel
theorem tyJ2_ok : ∀ k, k < 0 → parseFieldDescriptor (TJ2 k).2.2.1 = some (tyJ2 k) := by decide +kernel
abbrev cJ2_newBytesFor_77867 : ByteArray := prog_23_method_2_code
def yJ2_newBytesFor_77867 : MethodName := ⟨RJ2, "newBytesFor", "(I)[B"⟩
abbrev cJ2_newBytesLength_0f7a4 : ByteArray := prog_23_method_3_code
def yJ2_newBytesLength_0f7a4 : MethodName := ⟨RJ2, "newBytesLength", "(I)I"⟩
abbrev cJ2_putChar_b72d1 : ByteArray := prog_23_method_4_code
def yJ2_putChar_b72d1 : MethodName := ⟨RJ2, "putChar", "([BII)V"⟩
abbrev cJ2_getChar_3b067 : ByteArray := prog_23_method_5_code
def yJ2_getChar_3b067 : MethodName := ⟨RJ2, "getChar", "([BI)C"⟩
abbrev cJ2_length_9d52b : ByteArray := prog_23_method_6_code
def yJ2_length_9d52b : MethodName := ⟨RJ2, "length", "([B)I"⟩
abbrev cJ2_coderFromArrayLen_85cad : ByteArray := prog_23_method_15_code
def yJ2_coderFromArrayLen_85cad : MethodName := ⟨RJ2, "coderFromArrayLen", "([BI)B"⟩
abbrev cJ2_compress_39247 : ByteArray := prog_23_method_17_code
def yJ2_compress_39247 : MethodName := ⟨RJ2, "compress", "([BII)[B"⟩
abbrev cJ2_compress_5af95 : ByteArray := prog_23_method_22_code
def yJ2_compress_5af95 : MethodName := ⟨RJ2, "compress", "([BI[BII)I"⟩
abbrev cJ2_fillNull_b72d1 : ByteArray := prog_23_method_70_code
def yJ2_fillNull_b72d1 : MethodName := ⟨RJ2, "fillNull", "([BII)V"⟩
abbrev cJ2_putCharSB_b72d1 : ByteArray := prog_23_method_71_code
def yJ2_putCharSB_b72d1 : MethodName := ⟨RJ2, "putCharSB", "([BII)V"⟩
abbrev cJ2_getChars_46870 : ByteArray := prog_23_method_77_code
def yJ2_getChars_46870 : MethodName := ⟨RJ2, "getChars", "(III[B)I"⟩
abbrev cJ2_putCharsAt_cd4e5 : ByteArray := prog_23_method_81_code
def yJ2_putCharsAt_cd4e5 : MethodName := ⟨RJ2, "putCharsAt", "([BICCCC)I"⟩
abbrev cJ2_inflate_0e8fd : ByteArray := prog_23_method_86_code
def yJ2_inflate_0e8fd : MethodName := ⟨RJ2, "inflate", "([BI[BII)V"⟩
abbrev cJ2_getChars_ba4f3 : ByteArray := prog_23_method_89_code
def yJ2_getChars_ba4f3 : MethodName := ⟨RJ2, "getChars", "(II[B)I"⟩
abbrev cJ2_checkIndex_2214a : ByteArray := prog_23_method_91_code
def yJ2_checkIndex_2214a : MethodName := ⟨RJ2, "checkIndex", "(I[B)V"⟩
abbrev cJ2_checkBoundsBeginEnd_d044e : ByteArray := prog_23_method_93_code
def yJ2_checkBoundsBeginEnd_d044e : MethodName := ⟨RJ2, "checkBoundsBeginEnd", "(II[B)V"⟩
abbrev cJ2_checkBoundsOffCount_d044e : ByteArray := prog_23_method_94_code
def yJ2_checkBoundsOffCount_d044e : MethodName := ⟨RJ2, "checkBoundsOffCount", "(II[B)V"⟩
def RJ10 : String := "java/lang/System"
def TJ10 : u_T := fun k => match k with
  | _ => ("", "", "", false)
def tyJ10 : Nat → FieldType := fun k => match k with
  | _ => .int
abbrev wsJ100 : List Cond := u_ws RJ10 TJ10 0
theorem nmJ10 : ∀ a, a < 0 → ∀ b, b < 0 → a ≠ b → (TJ10 a).2.1 ≠ (TJ10 b).2.1 := by decide +kernel
theorem tyJ10_ok : ∀ k, k < 0 → parseFieldDescriptor (TJ10 k).2.2.1 = some (tyJ10 k) := by decide +kernel
def RJxfd54e : String := "java/lang/constant/Constable"
def TJxfd54e : u_T := fun k => match k with
  | _ => ("", "", "", false)
def tyJxfd54e : Nat → FieldType := fun k => match k with
  | _ => .int
abbrev wsJxfd54e0 : List Cond := u_ws RJxfd54e TJxfd54e 0
theorem nmJxfd54e : ∀ a, a < 0 → ∀ b, b < 0 → a ≠ b → (TJxfd54e a).2.1 ≠ (TJxfd54e b).2.1 := by decide +kernel
theorem tyJxfd54e_ok : ∀ k, k < 0 → parseFieldDescriptor (TJxfd54e k).2.2.1 = some (tyJxfd54e k) := by decide +kernel
def RJx3cf43 : String := "java/lang/constant/ConstantDesc"
def TJx3cf43 : u_T := fun k => match k with
  | _ => ("", "", "", false)
def tyJx3cf43 : Nat → FieldType := fun k => match k with
  | _ => .int
abbrev wsJx3cf430 : List Cond := u_ws RJx3cf43 TJx3cf43 0
theorem nmJx3cf43 : ∀ a, a < 0 → ∀ b, b < 0 → a ≠ b → (TJx3cf43 a).2.1 ≠ (TJx3cf43 b).2.1 := by decide +kernel
theorem tyJx3cf43_ok : ∀ k, k < 0 → parseFieldDescriptor (TJx3cf43 k).2.2.1 = some (tyJx3cf43 k) := by decide +kernel
def RJ7 : String := "java/util/Arrays"
def TJ7 : u_T := fun k => match k with
  | _ => ("", "", "", false)
def tyJ7 : Nat → FieldType := fun k => match k with
  | _ => .int
abbrev wsJ70 : List Cond := u_ws RJ7 TJ7 0
theorem nmJ7 : ∀ a, a < 0 → ∀ b, b < 0 → a ≠ b → (TJ7 a).2.1 ≠ (TJ7 b).2.1 := by decide +kernel
theorem tyJ7_ok : ∀ k, k < 0 → parseFieldDescriptor (TJ7 k).2.2.1 = some (tyJ7 k) := by decide +kernel
abbrev cJ7_rangeCheck_23922 : ByteArray := prog_26_method_30_code
def yJ7_rangeCheck_23922 : MethodName := ⟨RJ7, "rangeCheck", "(III)V"⟩
abbrev cJ7_fill_53178 : ByteArray := prog_26_method_103_code
def yJ7_fill_53178 : MethodName := ⟨RJ7, "fill", "([II)V"⟩
abbrev cJ7_fill_eb02e : ByteArray := prog_26_method_110_code
def yJ7_fill_eb02e : MethodName := ⟨RJ7, "fill", "([BIIB)V"⟩
abbrev cJ7_copyOf_9075b : ByteArray := prog_26_method_121_code
def yJ7_copyOf_9075b : MethodName := ⟨RJ7, "copyOf", "([BI)[B"⟩
abbrev cJ7_checkLength_df160 : ByteArray := prog_26_method_131_code
def yJ7_checkLength_df160 : MethodName := ⟨RJ7, "checkLength", "(II)V"⟩
abbrev cJ7_copyOfRange_39247 : ByteArray := prog_26_method_132_code
def yJ7_copyOfRange_39247 : MethodName := ⟨RJ7, "copyOfRange", "([BII)[B"⟩
abbrev cJ7_copyOfRangeByte_39247 : ByteArray := prog_26_method_133_code
def yJ7_copyOfRangeByte_39247 : MethodName := ⟨RJ7, "copyOfRangeByte", "([BII)[B"⟩
def RJ8 : String := "jdk/internal/util/ArraysSupport"
def TJ8 : u_T := fun k => match k with
  | _ => ("", "", "", false)
def tyJ8 : Nat → FieldType := fun k => match k with
  | _ => .int
abbrev wsJ80 : List Cond := u_ws RJ8 TJ8 0
theorem nmJ8 : ∀ a, a < 0 → ∀ b, b < 0 → a ≠ b → (TJ8 a).2.1 ≠ (TJ8 b).2.1 := by decide +kernel
theorem tyJ8_ok : ∀ k, k < 0 → parseFieldDescriptor (TJ8 k).2.2.1 = some (tyJ8 k) := by decide +kernel
abbrev cJ8_newLength_cabcc : ByteArray := prog_27_method_27_code
def yJ8_newLength_cabcc : MethodName := ⟨RJ8, "newLength", "(III)I"⟩
abbrev cJ8_hugeLength_7cf53 : ByteArray := prog_27_method_28_code
def yJ8_hugeLength_7cf53 : MethodName := ⟨RJ8, "hugeLength", "(II)I"⟩
def RJ3 : String := "jdk/internal/util/Preconditions"
def TJ3 : u_T := fun k => match k with
  | _ => ("", "", "", false)
def tyJ3 : Nat → FieldType := fun k => match k with
  | _ => .int
abbrev wsJ30 : List Cond := u_ws RJ3 TJ3 0
theorem nmJ3 : ∀ a, a < 0 → ∀ b, b < 0 → a ≠ b → (TJ3 a).2.1 ≠ (TJ3 b).2.1 := by decide +kernel
theorem tyJ3_ok : ∀ k, k < 0 → parseFieldDescriptor (TJ3 k).2.2.1 = some (tyJ3 k) := by decide +kernel
abbrev cJ3_checkIndex_8e157 : ByteArray := prog_28_method_11_code
def yJ3_checkIndex_8e157 : MethodName := ⟨RJ3, "checkIndex", "(IILjava/util/function/BiFunction;)I"⟩
abbrev cJ3_checkFromToIndex_8c36e : ByteArray := prog_28_method_12_code
def yJ3_checkFromToIndex_8c36e : MethodName := ⟨RJ3, "checkFromToIndex", "(IIILjava/util/function/BiFunction;)I"⟩
abbrev cJ3_checkFromIndexSize_8c36e : ByteArray := prog_28_method_13_code
def yJ3_checkFromIndexSize_8c36e : MethodName := ⟨RJ3, "checkFromIndexSize", "(IIILjava/util/function/BiFunction;)I"⟩
def RL : String := "FestivalgridLaw"
abbrev cL_startSet : ByteArray := method_3_code
def yL_startSet : MethodName := ⟨RL, "startSet", "(LFestivalgrid;I[J)I"⟩
abbrev cL_setChange : ByteArray := method_4_code
def yL_setChange : MethodName := ⟨RL, "setChange", "(LFestivalgrid;II[J)I"⟩
abbrev cL_setBound : ByteArray := method_5_code
def yL_setBound : MethodName := ⟨RL, "setBound", "(LFestivalgrid;II[J)I"⟩
abbrev cL_setWind : ByteArray := method_6_code
def yL_setWind : MethodName := ⟨RL, "setWind", "(LFestivalgrid;II[J)I"⟩
abbrev cL_plan : ByteArray := method_7_code
def yL_plan : MethodName := ⟨RL, "plan", "(LFestivalgrid;IIIIIII[J)I"⟩
abbrev cL_reason : ByteArray := method_8_code
def yL_reason : MethodName := ⟨RL, "reason", "(LFestivalgrid;IIIIIII[J)I"⟩
abbrev cL_move : ByteArray := method_9_code
def yL_move : MethodName := ⟨RL, "move", "(LFestivalgrid;II[J)I"⟩
abbrev cL_drop : ByteArray := method_10_code
def yL_drop : MethodName := ⟨RL, "drop", "(LFestivalgrid;I)I"⟩
abbrev cL_start : ByteArray := method_11_code
def yL_start : MethodName := ⟨RL, "start", "(LFestivalgrid;I[J)I"⟩
abbrev cL_firstStart : ByteArray := method_12_code
def yL_firstStart : MethodName := ⟨RL, "firstStart", "(LFestivalgrid;II[J)I"⟩
abbrev cL_type : ByteArray := method_13_code
def yL_type : MethodName := ⟨RL, "type", "(LFestivalgrid;C[J)I"⟩
abbrev cL_grant : ByteArray := method_14_code
def yL_grant : MethodName := ⟨RL, "grant", "(LFestivalgrid;I[J)I"⟩
abbrev cL_ofAct : ByteArray := method_15_code
def yL_ofAct : MethodName := ⟨RL, "ofAct", "(LFestivalgrid;II[J)I"⟩
abbrev cL_storm : ByteArray := method_16_code
def yL_storm : MethodName := ⟨RL, "storm", "(LFestivalgrid;III[J)I"⟩
abbrev cL_load : ByteArray := method_17_code
def yL_load : MethodName := ⟨RL, "load", "(LFestivalgrid;II[J)I"⟩
abbrev cL_noise : ByteArray := method_18_code
def yL_noise : MethodName := ⟨RL, "noise", "(LFestivalgrid;II[J)I"⟩
abbrev cL_channels : ByteArray := method_19_code
def yL_channels : MethodName := ⟨RL, "channels", "(LFestivalgrid;I[J)I"⟩
abbrev cL_law : ByteArray := code
def yL_law : MethodName := ⟨RL, "law", "([I)Z"⟩
end
section
theorem dX0_init_0 : decode cX0_init 0 = .ok (.aload_n 0, 1) := by decide +kernel
theorem dX0_init_1 : decode cX0_init 1 = .ok (.invokespecial 3, 3) := by decide +kernel
theorem dX0_init_4 : decode cX0_init 4 = .ok (.return_, 1) := by decide +kernel
theorem dX0_end_0 : decode cX0_end 0 = .ok (.aload_n 0, 1) := by decide +kernel
theorem dX0_end_1 : decode cX0_end 1 = .ok (.getfield 9, 3) := by decide +kernel
theorem dX0_end_4 : decode cX0_end 4 = .ok (.aload_n 0, 1) := by decide +kernel
theorem dX0_end_5 : decode cX0_end 5 = .ok (.getfield 15, 3) := by decide +kernel
theorem dX0_end_8 : decode cX0_end 8 = .ok (.iadd, 1) := by decide +kernel
theorem dX0_end_9 : decode cX0_end 9 = .ok (.ireturn, 1) := by decide +kernel
theorem dX0_playsAt_0 : decode cX0_playsAt 0 = .ok (.aload_n 0, 1) := by decide +kernel
theorem dX0_playsAt_1 : decode cX0_playsAt 1 = .ok (.getfield 18, 3) := by decide +kernel
theorem dX0_playsAt_4 : decode cX0_playsAt 4 = .ok (.ifCond .eq 28, 3) := by decide +kernel
theorem dX0_playsAt_7 : decode cX0_playsAt 7 = .ok (.iload_n 1, 1) := by decide +kernel
theorem dX0_playsAt_8 : decode cX0_playsAt 8 = .ok (.aload_n 0, 1) := by decide +kernel
theorem dX0_playsAt_9 : decode cX0_playsAt 9 = .ok (.getfield 9, 3) := by decide +kernel
theorem dX0_playsAt_12 : decode cX0_playsAt 12 = .ok (.if_icmp .lt 20, 3) := by decide +kernel
theorem dX0_playsAt_15 : decode cX0_playsAt 15 = .ok (.iload_n 1, 1) := by decide +kernel
theorem dX0_playsAt_16 : decode cX0_playsAt 16 = .ok (.aload_n 0, 1) := by decide +kernel
theorem dX0_playsAt_17 : decode cX0_playsAt 17 = .ok (.getfield 9, 3) := by decide +kernel
theorem dX0_playsAt_20 : decode cX0_playsAt 20 = .ok (.aload_n 0, 1) := by decide +kernel
theorem dX0_playsAt_21 : decode cX0_playsAt 21 = .ok (.getfield 15, 3) := by decide +kernel
theorem dX0_playsAt_24 : decode cX0_playsAt 24 = .ok (.iadd, 1) := by decide +kernel
theorem dX0_playsAt_25 : decode cX0_playsAt 25 = .ok (.if_icmp .ge 7, 3) := by decide +kernel
theorem dX0_playsAt_28 : decode cX0_playsAt 28 = .ok (.iconst 1, 1) := by decide +kernel
theorem dX0_playsAt_29 : decode cX0_playsAt 29 = .ok (.goto 4, 3) := by decide +kernel
theorem dX0_playsAt_32 : decode cX0_playsAt 32 = .ok (.iconst 0, 1) := by decide +kernel
theorem dX0_playsAt_33 : decode cX0_playsAt 33 = .ok (.ireturn, 1) := by decide +kernel
theorem dX0_isTooNear_0 : decode cX0_isTooNear 0 = .ok (.aload_n 0, 1) := by decide +kernel
theorem dX0_isTooNear_1 : decode cX0_isTooNear 1 = .ok (.getfield 9, 3) := by decide +kernel
theorem dX0_isTooNear_4 : decode cX0_isTooNear 4 = .ok (.aload_n 1, 1) := by decide +kernel
theorem dX0_isTooNear_5 : decode cX0_isTooNear 5 = .ok (.invokevirtual 22, 3) := by decide +kernel
theorem dX0_isTooNear_8 : decode cX0_isTooNear 8 = .ok (.iload_n 2, 1) := by decide +kernel
theorem dX0_isTooNear_9 : decode cX0_isTooNear 9 = .ok (.iadd, 1) := by decide +kernel
theorem dX0_isTooNear_10 : decode cX0_isTooNear 10 = .ok (.if_icmp .ge 20, 3) := by decide +kernel
theorem dX0_isTooNear_13 : decode cX0_isTooNear 13 = .ok (.aload_n 1, 1) := by decide +kernel
theorem dX0_isTooNear_14 : decode cX0_isTooNear 14 = .ok (.getfield 9, 3) := by decide +kernel
theorem dX0_isTooNear_17 : decode cX0_isTooNear 17 = .ok (.aload_n 0, 1) := by decide +kernel
theorem dX0_isTooNear_18 : decode cX0_isTooNear 18 = .ok (.invokevirtual 22, 3) := by decide +kernel
theorem dX0_isTooNear_21 : decode cX0_isTooNear 21 = .ok (.iload_n 2, 1) := by decide +kernel
theorem dX0_isTooNear_22 : decode cX0_isTooNear 22 = .ok (.iadd, 1) := by decide +kernel
theorem dX0_isTooNear_23 : decode cX0_isTooNear 23 = .ok (.if_icmp .ge 7, 3) := by decide +kernel
theorem dX0_isTooNear_26 : decode cX0_isTooNear 26 = .ok (.iconst 1, 1) := by decide +kernel
theorem dX0_isTooNear_27 : decode cX0_isTooNear 27 = .ok (.goto 4, 3) := by decide +kernel
theorem dX0_isTooNear_30 : decode cX0_isTooNear 30 = .ok (.iconst 0, 1) := by decide +kernel
theorem dX0_isTooNear_31 : decode cX0_isTooNear 31 = .ok (.ireturn, 1) := by decide +kernel
theorem dX0_take_0 : decode cX0_take 0 = .ok (.aload_n 0, 1) := by decide +kernel
theorem dX0_take_1 : decode cX0_take 1 = .ok (.aload_n 0, 1) := by decide +kernel
theorem dX0_take_2 : decode cX0_take 2 = .ok (.getfield 26, 3) := by decide +kernel
theorem dX0_take_5 : decode cX0_take 5 = .ok (.aload_n 1, 1) := by decide +kernel
theorem dX0_take_6 : decode cX0_take 6 = .ok (.getfield 29, 3) := by decide +kernel
theorem dX0_take_9 : decode cX0_take 9 = .ok (.iadd, 1) := by decide +kernel
theorem dX0_take_10 : decode cX0_take 10 = .ok (.invokestatic 34, 3) := by decide +kernel
theorem dX0_take_13 : decode cX0_take 13 = .ok (.putfield 26, 3) := by decide +kernel
theorem dX0_take_16 : decode cX0_take 16 = .ok (.aload_n 0, 1) := by decide +kernel
theorem dX0_take_17 : decode cX0_take 17 = .ok (.aload_n 0, 1) := by decide +kernel
theorem dX0_take_18 : decode cX0_take 18 = .ok (.getfield 38, 3) := by decide +kernel
theorem dX0_take_21 : decode cX0_take 21 = .ok (.aload_n 1, 1) := by decide +kernel
theorem dX0_take_22 : decode cX0_take 22 = .ok (.getfield 41, 3) := by decide +kernel
theorem dX0_take_25 : decode cX0_take 25 = .ok (.iadd, 1) := by decide +kernel
theorem dX0_take_26 : decode cX0_take 26 = .ok (.invokestatic 34, 3) := by decide +kernel
theorem dX0_take_29 : decode cX0_take 29 = .ok (.putfield 38, 3) := by decide +kernel
theorem dX0_take_32 : decode cX0_take 32 = .ok (.aload_n 1, 1) := by decide +kernel
theorem dX0_take_33 : decode cX0_take 33 = .ok (.getfield 44, 3) := by decide +kernel
theorem dX0_take_36 : decode cX0_take 36 = .ok (.ifCond .eq 26, 3) := by decide +kernel
theorem dX0_take_39 : decode cX0_take 39 = .ok (.aload_n 0, 1) := by decide +kernel
theorem dX0_take_40 : decode cX0_take 40 = .ok (.aload_n 0, 1) := by decide +kernel
theorem dX0_take_41 : decode cX0_take 41 = .ok (.getfield 47, 3) := by decide +kernel
theorem dX0_take_44 : decode cX0_take 44 = .ok (.bipush 31, 2) := by decide +kernel
theorem dX0_take_46 : decode cX0_take 46 = .ok (.if_icmp .lt 7, 3) := by decide +kernel
theorem dX0_take_49 : decode cX0_take 49 = .ok (.iconst (-1), 1) := by decide +kernel
theorem dX0_take_50 : decode cX0_take 50 = .ok (.goto 9, 3) := by decide +kernel
theorem dX0_take_53 : decode cX0_take 53 = .ok (.aload_n 0, 1) := by decide +kernel
theorem dX0_take_54 : decode cX0_take 54 = .ok (.getfield 47, 3) := by decide +kernel
theorem dX0_take_57 : decode cX0_take 57 = .ok (.iconst 1, 1) := by decide +kernel
theorem dX0_take_58 : decode cX0_take 58 = .ok (.iadd, 1) := by decide +kernel
theorem dX0_take_59 : decode cX0_take 59 = .ok (.putfield 47, 3) := by decide +kernel
theorem dX0_take_62 : decode cX0_take 62 = .ok (.return_, 1) := by decide +kernel
theorem dX0_withinStrength_0 : decode cX0_withinStrength 0 = .ok (.iconst 0, 1) := by decide +kernel
theorem dX0_withinStrength_1 : decode cX0_withinStrength 1 = .ok (.iload_n 0, 1) := by decide +kernel
theorem dX0_withinStrength_2 : decode cX0_withinStrength 2 = .ok (.sipush 200, 3) := by decide +kernel
theorem dX0_withinStrength_5 : decode cX0_withinStrength 5 = .ok (.invokestatic 50, 3) := by decide +kernel
theorem dX0_withinStrength_8 : decode cX0_withinStrength 8 = .ok (.invokestatic 56, 3) := by decide +kernel
theorem dX0_withinStrength_11 : decode cX0_withinStrength 11 = .ok (.ireturn, 1) := by decide +kernel
theorem dX1_init_0 : decode cX1_init 0 = .ok (.aload_n 0, 1) := by decide +kernel
theorem dX1_init_1 : decode cX1_init 1 = .ok (.invokespecial 3, 3) := by decide +kernel
theorem dX1_init_4 : decode cX1_init 4 = .ok (.aload_n 0, 1) := by decide +kernel
theorem dX1_init_5 : decode cX1_init 5 = .ok (.iconst (-1), 1) := by decide +kernel
theorem dX1_init_6 : decode cX1_init 6 = .ok (.putfield 9, 3) := by decide +kernel
theorem dX1_init_9 : decode cX1_init 9 = .ok (.return_, 1) := by decide +kernel
theorem dX1_hits_0 : decode cX1_hits 0 = .ok (.aload_n 0, 1) := by decide +kernel
theorem dX1_hits_1 : decode cX1_hits 1 = .ok (.getfield 9, 3) := by decide +kernel
theorem dX1_hits_4 : decode cX1_hits 4 = .ok (.aload_n 1, 1) := by decide +kernel
theorem dX1_hits_5 : decode cX1_hits 5 = .ok (.getfield 15, 3) := by decide +kernel
theorem dX1_hits_8 : decode cX1_hits 8 = .ok (.if_icmp .ne 29, 3) := by decide +kernel
theorem dX1_hits_11 : decode cX1_hits 11 = .ok (.aload_n 1, 1) := by decide +kernel
theorem dX1_hits_12 : decode cX1_hits 12 = .ok (.getfield 18, 3) := by decide +kernel
theorem dX1_hits_15 : decode cX1_hits 15 = .ok (.aload_n 0, 1) := by decide +kernel
theorem dX1_hits_16 : decode cX1_hits 16 = .ok (.getfield 21, 3) := by decide +kernel
theorem dX1_hits_19 : decode cX1_hits 19 = .ok (.if_icmp .ge 18, 3) := by decide +kernel
theorem dX1_hits_22 : decode cX1_hits 22 = .ok (.aload_n 0, 1) := by decide +kernel
theorem dX1_hits_23 : decode cX1_hits 23 = .ok (.getfield 24, 3) := by decide +kernel
theorem dX1_hits_26 : decode cX1_hits 26 = .ok (.aload_n 1, 1) := by decide +kernel
theorem dX1_hits_27 : decode cX1_hits 27 = .ok (.invokevirtual 27, 3) := by decide +kernel
theorem dX1_hits_30 : decode cX1_hits 30 = .ok (.if_icmp .ge 7, 3) := by decide +kernel
theorem dX1_hits_33 : decode cX1_hits 33 = .ok (.iconst 1, 1) := by decide +kernel
theorem dX1_hits_34 : decode cX1_hits 34 = .ok (.goto 4, 3) := by decide +kernel
theorem dX1_hits_37 : decode cX1_hits 37 = .ok (.iconst 0, 1) := by decide +kernel
theorem dX1_hits_38 : decode cX1_hits 38 = .ok (.ireturn, 1) := by decide +kernel
theorem dX3_init_0 : decode cX3_init 0 = .ok (.aload_n 0, 1) := by decide +kernel
theorem dX3_init_1 : decode cX3_init 1 = .ok (.invokespecial 1, 3) := by decide +kernel
theorem dX3_init_4 : decode cX3_init 4 = .ok (.aload_n 0, 1) := by decide +kernel
theorem dX3_init_5 : decode cX3_init 5 = .ok (.bipush 6, 2) := by decide +kernel
theorem dX3_init_7 : decode cX3_init 7 = .ok (.newarray .int, 2) := by decide +kernel
theorem dX3_init_9 : decode cX3_init 9 = .ok (.putfield 9, 3) := by decide +kernel
theorem dX3_init_12 : decode cX3_init 12 = .ok (.aload_n 0, 1) := by decide +kernel
theorem dX3_init_13 : decode cX3_init 13 = .ok (.iconst 3, 1) := by decide +kernel
theorem dX3_init_14 : decode cX3_init 14 = .ok (.newarray .int, 2) := by decide +kernel
theorem dX3_init_16 : decode cX3_init 16 = .ok (.putfield 13, 3) := by decide +kernel
theorem dX3_init_19 : decode cX3_init 19 = .ok (.aload_n 0, 1) := by decide +kernel
theorem dX3_init_20 : decode cX3_init 20 = .ok (.iconst 3, 1) := by decide +kernel
theorem dX3_init_21 : decode cX3_init 21 = .ok (.newarray .int, 2) := by decide +kernel
theorem dX3_init_23 : decode cX3_init 23 = .ok (.putfield 16, 3) := by decide +kernel
theorem dX3_init_26 : decode cX3_init 26 = .ok (.aload_n 0, 1) := by decide +kernel
theorem dX3_init_27 : decode cX3_init 27 = .ok (.bipush 17, 2) := by decide +kernel
theorem dX3_init_29 : decode cX3_init 29 = .ok (.newarray .int, 2) := by decide +kernel
theorem dX3_init_31 : decode cX3_init 31 = .ok (.putfield 19, 3) := by decide +kernel
theorem dX3_init_34 : decode cX3_init 34 = .ok (.aload_n 0, 1) := by decide +kernel
theorem dX3_init_35 : decode cX3_init 35 = .ok (.bipush 16, 2) := by decide +kernel
theorem dX3_init_37 : decode cX3_init 37 = .ok (.anewarray 22, 3) := by decide +kernel
theorem dX3_init_40 : decode cX3_init 40 = .ok (.putfield 24, 3) := by decide +kernel
theorem dX3_init_43 : decode cX3_init 43 = .ok (.aload_n 0, 1) := by decide +kernel
theorem dX3_init_44 : decode cX3_init 44 = .ok (.new 28, 3) := by decide +kernel
theorem dX3_init_47 : decode cX3_init 47 = .ok (.dup, 1) := by decide +kernel
theorem dX3_init_48 : decode cX3_init 48 = .ok (.invokespecial 30, 3) := by decide +kernel
theorem dX3_init_51 : decode cX3_init 51 = .ok (.putfield 31, 3) := by decide +kernel
theorem dX3_init_54 : decode cX3_init 54 = .ok (.aload_n 0, 1) := by decide +kernel
theorem dX3_init_55 : decode cX3_init 55 = .ok (.iconst 5, 1) := by decide +kernel
theorem dX3_init_56 : decode cX3_init 56 = .ok (.anewarray 35, 3) := by decide +kernel
theorem dX3_init_59 : decode cX3_init 59 = .ok (.putfield 37, 3) := by decide +kernel
theorem dX3_init_62 : decode cX3_init 62 = .ok (.aload_n 0, 1) := by decide +kernel
theorem dX3_init_63 : decode cX3_init 63 = .ok (.iconst 3, 1) := by decide +kernel
theorem dX3_init_64 : decode cX3_init 64 = .ok (.newarray .int, 2) := by decide +kernel
theorem dX3_init_66 : decode cX3_init 66 = .ok (.putfield 41, 3) := by decide +kernel
theorem dX3_init_69 : decode cX3_init 69 = .ok (.aload_n 0, 1) := by decide +kernel
theorem dX3_init_70 : decode cX3_init 70 = .ok (.iconst 3, 1) := by decide +kernel
theorem dX3_init_71 : decode cX3_init 71 = .ok (.newarray .int, 2) := by decide +kernel
theorem dX3_init_73 : decode cX3_init 73 = .ok (.putfield 44, 3) := by decide +kernel
theorem dX3_init_76 : decode cX3_init 76 = .ok (.aload_n 0, 1) := by decide +kernel
theorem dX3_init_77 : decode cX3_init 77 = .ok (.getfield 16, 3) := by decide +kernel
theorem dX3_init_80 : decode cX3_init 80 = .ok (.bipush 60, 2) := by decide +kernel
theorem dX3_init_82 : decode cX3_init 82 = .ok (.invokestatic 47, 3) := by decide +kernel
theorem dX3_init_85 : decode cX3_init 85 = .ok (.iconst 0, 1) := by decide +kernel
theorem dX3_init_86 : decode cX3_init 86 = .ok (.istore_n 1, 1) := by decide +kernel
theorem dX3_init_87 : decode cX3_init 87 = .ok (.iload_n 1, 1) := by decide +kernel
theorem dX3_init_88 : decode cX3_init 88 = .ok (.bipush 16, 2) := by decide +kernel
theorem dX3_init_90 : decode cX3_init 90 = .ok (.if_icmp .ge 22, 3) := by decide +kernel
theorem dX3_init_93 : decode cX3_init 93 = .ok (.aload_n 0, 1) := by decide +kernel
theorem dX3_init_94 : decode cX3_init 94 = .ok (.getfield 24, 3) := by decide +kernel
theorem dX3_init_97 : decode cX3_init 97 = .ok (.iload_n 1, 1) := by decide +kernel
theorem dX3_init_98 : decode cX3_init 98 = .ok (.new 22, 3) := by decide +kernel
theorem dX3_init_101 : decode cX3_init 101 = .ok (.dup, 1) := by decide +kernel
theorem dX3_init_102 : decode cX3_init 102 = .ok (.invokespecial 53, 3) := by decide +kernel
theorem dX3_init_105 : decode cX3_init 105 = .ok (.aastore, 1) := by decide +kernel
theorem dX3_init_106 : decode cX3_init 106 = .ok (.iinc 1 1, 3) := by decide +kernel
theorem dX3_init_109 : decode cX3_init 109 = .ok (.goto (-22), 3) := by decide +kernel
theorem dX3_init_112 : decode cX3_init 112 = .ok (.iconst 0, 1) := by decide +kernel
theorem dX3_init_113 : decode cX3_init 113 = .ok (.istore_n 1, 1) := by decide +kernel
theorem dX3_init_114 : decode cX3_init 114 = .ok (.iload_n 1, 1) := by decide +kernel
theorem dX3_init_115 : decode cX3_init 115 = .ok (.iconst 5, 1) := by decide +kernel
theorem dX3_init_116 : decode cX3_init 116 = .ok (.if_icmp .ge 22, 3) := by decide +kernel
theorem dX3_init_119 : decode cX3_init 119 = .ok (.aload_n 0, 1) := by decide +kernel
theorem dX3_init_120 : decode cX3_init 120 = .ok (.getfield 37, 3) := by decide +kernel
theorem dX3_init_123 : decode cX3_init 123 = .ok (.iload_n 1, 1) := by decide +kernel
theorem dX3_init_124 : decode cX3_init 124 = .ok (.new 35, 3) := by decide +kernel
theorem dX3_init_127 : decode cX3_init 127 = .ok (.dup, 1) := by decide +kernel
theorem dX3_init_128 : decode cX3_init 128 = .ok (.invokespecial 54, 3) := by decide +kernel
theorem dX3_init_131 : decode cX3_init 131 = .ok (.aastore, 1) := by decide +kernel
theorem dX3_init_132 : decode cX3_init 132 = .ok (.iinc 1 1, 3) := by decide +kernel
theorem dX3_init_135 : decode cX3_init 135 = .ok (.goto (-21), 3) := by decide +kernel
theorem dX3_init_138 : decode cX3_init 138 = .ok (.return_, 1) := by decide +kernel
theorem dX3_startSet_0 : decode cX3_startSet 0 = .ok (.iload_n 1, 1) := by decide +kernel
theorem dX3_startSet_1 : decode cX3_startSet 1 = .ok (.invokestatic 55, 3) := by decide +kernel
theorem dX3_startSet_4 : decode cX3_startSet 4 = .ok (.aload_n 0, 1) := by decide +kernel
theorem dX3_startSet_5 : decode cX3_startSet 5 = .ok (.getfield 59, 3) := by decide +kernel
theorem dX3_startSet_8 : decode cX3_startSet 8 = .ok (.bipush 6, 2) := by decide +kernel
theorem dX3_startSet_10 : decode cX3_startSet 10 = .ok (.if_icmp .lt 13, 3) := by decide +kernel
theorem dX3_startSet_13 : decode cX3_startSet 13 = .ok (.new 63, 3) := by decide +kernel
theorem dX3_startSet_16 : decode cX3_startSet 16 = .ok (.dup, 1) := by decide +kernel
theorem dX3_startSet_17 : decode cX3_startSet 17 = .ok (.ldc 65, 2) := by decide +kernel
theorem dX3_startSet_19 : decode cX3_startSet 19 = .ok (.invokespecial 67, 3) := by decide +kernel
theorem dX3_startSet_22 : decode cX3_startSet 22 = .ok (.athrow, 1) := by decide +kernel
theorem dX3_startSet_23 : decode cX3_startSet 23 = .ok (.iconst 0, 1) := by decide +kernel
theorem dX3_startSet_24 : decode cX3_startSet 24 = .ok (.istore_n 2, 1) := by decide +kernel
theorem dX3_startSet_25 : decode cX3_startSet 25 = .ok (.iload_n 2, 1) := by decide +kernel
theorem dX3_startSet_26 : decode cX3_startSet 26 = .ok (.aload_n 0, 1) := by decide +kernel
theorem dX3_startSet_27 : decode cX3_startSet 27 = .ok (.getfield 59, 3) := by decide +kernel
theorem dX3_startSet_30 : decode cX3_startSet 30 = .ok (.if_icmp .ge 27, 3) := by decide +kernel
theorem dX3_startSet_33 : decode cX3_startSet 33 = .ok (.aload_n 0, 1) := by decide +kernel
theorem dX3_startSet_34 : decode cX3_startSet 34 = .ok (.getfield 9, 3) := by decide +kernel
theorem dX3_startSet_37 : decode cX3_startSet 37 = .ok (.iload_n 2, 1) := by decide +kernel
theorem dX3_startSet_38 : decode cX3_startSet 38 = .ok (.iaload, 1) := by decide +kernel
theorem dX3_startSet_39 : decode cX3_startSet 39 = .ok (.iload_n 1, 1) := by decide +kernel
theorem dX3_startSet_40 : decode cX3_startSet 40 = .ok (.isub, 1) := by decide +kernel
theorem dX3_startSet_41 : decode cX3_startSet 41 = .ok (.invokestatic 70, 3) := by decide +kernel
theorem dX3_startSet_44 : decode cX3_startSet 44 = .ok (.bipush 10, 2) := by decide +kernel
theorem dX3_startSet_46 : decode cX3_startSet 46 = .ok (.if_icmp .ge 5, 3) := by decide +kernel
theorem dX3_startSet_49 : decode cX3_startSet 49 = .ok (.iconst (-1), 1) := by decide +kernel
theorem dX3_startSet_50 : decode cX3_startSet 50 = .ok (.ireturn, 1) := by decide +kernel
theorem dX3_startSet_51 : decode cX3_startSet 51 = .ok (.iinc 2 1, 3) := by decide +kernel
theorem dX3_startSet_54 : decode cX3_startSet 54 = .ok (.goto (-29), 3) := by decide +kernel
theorem dX3_startSet_57 : decode cX3_startSet 57 = .ok (.aload_n 0, 1) := by decide +kernel
theorem dX3_startSet_58 : decode cX3_startSet 58 = .ok (.getfield 9, 3) := by decide +kernel
theorem dX3_startSet_61 : decode cX3_startSet 61 = .ok (.aload_n 0, 1) := by decide +kernel
theorem dX3_startSet_62 : decode cX3_startSet 62 = .ok (.getfield 59, 3) := by decide +kernel
theorem dX3_startSet_65 : decode cX3_startSet 65 = .ok (.iload_n 1, 1) := by decide +kernel
theorem dX3_startSet_66 : decode cX3_startSet 66 = .ok (.iastore, 1) := by decide +kernel
theorem dX3_startSet_67 : decode cX3_startSet 67 = .ok (.aload_n 0, 1) := by decide +kernel
theorem dX3_startSet_68 : decode cX3_startSet 68 = .ok (.dup, 1) := by decide +kernel
theorem dX3_startSet_69 : decode cX3_startSet 69 = .ok (.getfield 59, 3) := by decide +kernel
theorem dX3_startSet_72 : decode cX3_startSet 72 = .ok (.iconst 1, 1) := by decide +kernel
theorem dX3_startSet_73 : decode cX3_startSet 73 = .ok (.iadd, 1) := by decide +kernel
theorem dX3_startSet_74 : decode cX3_startSet 74 = .ok (.putfield 59, 3) := by decide +kernel
theorem dX3_startSet_77 : decode cX3_startSet 77 = .ok (.aload_n 0, 1) := by decide +kernel
theorem dX3_startSet_78 : decode cX3_startSet 78 = .ok (.getfield 59, 3) := by decide +kernel
theorem dX3_startSet_81 : decode cX3_startSet 81 = .ok (.ireturn, 1) := by decide +kernel
theorem dX3_setChange_0 : decode cX3_setChange 0 = .ok (.iload_n 1, 1) := by decide +kernel
theorem dX3_setChange_1 : decode cX3_setChange 1 = .ok (.invokestatic 76, 3) := by decide +kernel
theorem dX3_setChange_4 : decode cX3_setChange 4 = .ok (.iload_n 2, 1) := by decide +kernel
theorem dX3_setChange_5 : decode cX3_setChange 5 = .ok (.iconst 0, 1) := by decide +kernel
theorem dX3_setChange_6 : decode cX3_setChange 6 = .ok (.bipush 60, 2) := by decide +kernel
theorem dX3_setChange_8 : decode cX3_setChange 8 = .ok (.invokestatic 79, 3) := by decide +kernel
theorem dX3_setChange_11 : decode cX3_setChange 11 = .ok (.aload_n 0, 1) := by decide +kernel
theorem dX3_setChange_12 : decode cX3_setChange 12 = .ok (.getfield 13, 3) := by decide +kernel
theorem dX3_setChange_15 : decode cX3_setChange 15 = .ok (.iload_n 1, 1) := by decide +kernel
theorem dX3_setChange_16 : decode cX3_setChange 16 = .ok (.iaload, 1) := by decide +kernel
theorem dX3_setChange_17 : decode cX3_setChange 17 = .ok (.istore_n 3, 1) := by decide +kernel
theorem dX3_setChange_18 : decode cX3_setChange 18 = .ok (.aload_n 0, 1) := by decide +kernel
theorem dX3_setChange_19 : decode cX3_setChange 19 = .ok (.getfield 13, 3) := by decide +kernel
theorem dX3_setChange_22 : decode cX3_setChange 22 = .ok (.iload_n 1, 1) := by decide +kernel
theorem dX3_setChange_23 : decode cX3_setChange 23 = .ok (.iload_n 2, 1) := by decide +kernel
theorem dX3_setChange_24 : decode cX3_setChange 24 = .ok (.iastore, 1) := by decide +kernel
theorem dX3_setChange_25 : decode cX3_setChange 25 = .ok (.aload_n 0, 1) := by decide +kernel
theorem dX3_setChange_26 : decode cX3_setChange 26 = .ok (.iload_n 1, 1) := by decide +kernel
theorem dX3_setChange_27 : decode cX3_setChange 27 = .ok (.invokevirtual 83, 3) := by decide +kernel
theorem dX3_setChange_30 : decode cX3_setChange 30 = .ok (.ifCond .eq 5, 3) := by decide +kernel
theorem dX3_setChange_33 : decode cX3_setChange 33 = .ok (.iconst 1, 1) := by decide +kernel
theorem dX3_setChange_34 : decode cX3_setChange 34 = .ok (.ireturn, 1) := by decide +kernel
theorem dX3_setChange_35 : decode cX3_setChange 35 = .ok (.aload_n 0, 1) := by decide +kernel
theorem dX3_setChange_36 : decode cX3_setChange 36 = .ok (.getfield 13, 3) := by decide +kernel
theorem dX3_setChange_39 : decode cX3_setChange 39 = .ok (.iload_n 1, 1) := by decide +kernel
theorem dX3_setChange_40 : decode cX3_setChange 40 = .ok (.iload_n 3, 1) := by decide +kernel
theorem dX3_setChange_41 : decode cX3_setChange 41 = .ok (.iastore, 1) := by decide +kernel
theorem dX3_setChange_42 : decode cX3_setChange 42 = .ok (.iconst 0, 1) := by decide +kernel
theorem dX3_setChange_43 : decode cX3_setChange 43 = .ok (.ireturn, 1) := by decide +kernel
theorem dX3_setBound_0 : decode cX3_setBound 0 = .ok (.iload_n 1, 1) := by decide +kernel
theorem dX3_setBound_1 : decode cX3_setBound 1 = .ok (.invokestatic 87, 3) := by decide +kernel
theorem dX3_setBound_4 : decode cX3_setBound 4 = .ok (.iload_n 2, 1) := by decide +kernel
theorem dX3_setBound_5 : decode cX3_setBound 5 = .ok (.bipush 10, 2) := by decide +kernel
theorem dX3_setBound_7 : decode cX3_setBound 7 = .ok (.sipush 300, 3) := by decide +kernel
theorem dX3_setBound_10 : decode cX3_setBound 10 = .ok (.invokestatic 79, 3) := by decide +kernel
theorem dX3_setBound_13 : decode cX3_setBound 13 = .ok (.aload_n 0, 1) := by decide +kernel
theorem dX3_setBound_14 : decode cX3_setBound 14 = .ok (.getfield 16, 3) := by decide +kernel
theorem dX3_setBound_17 : decode cX3_setBound 17 = .ok (.iload_n 1, 1) := by decide +kernel
theorem dX3_setBound_18 : decode cX3_setBound 18 = .ok (.iaload, 1) := by decide +kernel
theorem dX3_setBound_19 : decode cX3_setBound 19 = .ok (.istore_n 3, 1) := by decide +kernel
theorem dX3_setBound_20 : decode cX3_setBound 20 = .ok (.aload_n 0, 1) := by decide +kernel
theorem dX3_setBound_21 : decode cX3_setBound 21 = .ok (.getfield 16, 3) := by decide +kernel
theorem dX3_setBound_24 : decode cX3_setBound 24 = .ok (.iload_n 1, 1) := by decide +kernel
theorem dX3_setBound_25 : decode cX3_setBound 25 = .ok (.iload_n 2, 1) := by decide +kernel
theorem dX3_setBound_26 : decode cX3_setBound 26 = .ok (.iastore, 1) := by decide +kernel
theorem dX3_setBound_27 : decode cX3_setBound 27 = .ok (.aload_n 0, 1) := by decide +kernel
theorem dX3_setBound_28 : decode cX3_setBound 28 = .ok (.iconst 0, 1) := by decide +kernel
theorem dX3_setBound_29 : decode cX3_setBound 29 = .ok (.sipush 1000, 3) := by decide +kernel
theorem dX3_setBound_32 : decode cX3_setBound 32 = .ok (.invokevirtual 90, 3) := by decide +kernel
theorem dX3_setBound_35 : decode cX3_setBound 35 = .ok (.ifCond .ne 5, 3) := by decide +kernel
theorem dX3_setBound_38 : decode cX3_setBound 38 = .ok (.iconst 1, 1) := by decide +kernel
theorem dX3_setBound_39 : decode cX3_setBound 39 = .ok (.ireturn, 1) := by decide +kernel
theorem dX3_setBound_40 : decode cX3_setBound 40 = .ok (.aload_n 0, 1) := by decide +kernel
theorem dX3_setBound_41 : decode cX3_setBound 41 = .ok (.getfield 16, 3) := by decide +kernel
theorem dX3_setBound_44 : decode cX3_setBound 44 = .ok (.iload_n 1, 1) := by decide +kernel
theorem dX3_setBound_45 : decode cX3_setBound 45 = .ok (.iload_n 3, 1) := by decide +kernel
theorem dX3_setBound_46 : decode cX3_setBound 46 = .ok (.iastore, 1) := by decide +kernel
theorem dX3_setBound_47 : decode cX3_setBound 47 = .ok (.iconst 0, 1) := by decide +kernel
theorem dX3_setBound_48 : decode cX3_setBound 48 = .ok (.ireturn, 1) := by decide +kernel
theorem dX3_setWind_0 : decode cX3_setWind 0 = .ok (.iload_n 1, 1) := by decide +kernel
theorem dX3_setWind_1 : decode cX3_setWind 1 = .ok (.ifCond .lt 9, 3) := by decide +kernel
theorem dX3_setWind_4 : decode cX3_setWind 4 = .ok (.iload_n 1, 1) := by decide +kernel
theorem dX3_setWind_5 : decode cX3_setWind 5 = .ok (.bipush 17, 2) := by decide +kernel
theorem dX3_setWind_7 : decode cX3_setWind 7 = .ok (.if_icmp .lt 13, 3) := by decide +kernel
theorem dX3_setWind_10 : decode cX3_setWind 10 = .ok (.new 94, 3) := by decide +kernel
theorem dX3_setWind_13 : decode cX3_setWind 13 = .ok (.dup, 1) := by decide +kernel
theorem dX3_setWind_14 : decode cX3_setWind 14 = .ok (.ldc 96, 2) := by decide +kernel
theorem dX3_setWind_16 : decode cX3_setWind 16 = .ok (.invokespecial 98, 3) := by decide +kernel
theorem dX3_setWind_19 : decode cX3_setWind 19 = .ok (.athrow, 1) := by decide +kernel
theorem dX3_setWind_20 : decode cX3_setWind 20 = .ok (.iload_n 2, 1) := by decide +kernel
theorem dX3_setWind_21 : decode cX3_setWind 21 = .ok (.bipush (-10), 2) := by decide +kernel
theorem dX3_setWind_23 : decode cX3_setWind 23 = .ok (.bipush 10, 2) := by decide +kernel
theorem dX3_setWind_25 : decode cX3_setWind 25 = .ok (.invokestatic 79, 3) := by decide +kernel
theorem dX3_setWind_28 : decode cX3_setWind 28 = .ok (.aload_n 0, 1) := by decide +kernel
theorem dX3_setWind_29 : decode cX3_setWind 29 = .ok (.getfield 19, 3) := by decide +kernel
theorem dX3_setWind_32 : decode cX3_setWind 32 = .ok (.iload_n 1, 1) := by decide +kernel
theorem dX3_setWind_33 : decode cX3_setWind 33 = .ok (.iaload, 1) := by decide +kernel
theorem dX3_setWind_34 : decode cX3_setWind 34 = .ok (.istore_n 3, 1) := by decide +kernel
theorem dX3_setWind_35 : decode cX3_setWind 35 = .ok (.aload_n 0, 1) := by decide +kernel
theorem dX3_setWind_36 : decode cX3_setWind 36 = .ok (.getfield 19, 3) := by decide +kernel
theorem dX3_setWind_39 : decode cX3_setWind 39 = .ok (.iload_n 1, 1) := by decide +kernel
theorem dX3_setWind_40 : decode cX3_setWind 40 = .ok (.iload_n 2, 1) := by decide +kernel
theorem dX3_setWind_41 : decode cX3_setWind 41 = .ok (.iastore, 1) := by decide +kernel
theorem dX3_setWind_42 : decode cX3_setWind 42 = .ok (.aload_n 0, 1) := by decide +kernel
theorem dX3_setWind_43 : decode cX3_setWind 43 = .ok (.iload_n 1, 1) := by decide +kernel
theorem dX3_setWind_44 : decode cX3_setWind 44 = .ok (.bipush 60, 2) := by decide +kernel
theorem dX3_setWind_46 : decode cX3_setWind 46 = .ok (.imul, 1) := by decide +kernel
theorem dX3_setWind_47 : decode cX3_setWind 47 = .ok (.iload_n 1, 1) := by decide +kernel
theorem dX3_setWind_48 : decode cX3_setWind 48 = .ok (.bipush 60, 2) := by decide +kernel
theorem dX3_setWind_50 : decode cX3_setWind 50 = .ok (.imul, 1) := by decide +kernel
theorem dX3_setWind_51 : decode cX3_setWind 51 = .ok (.bipush 60, 2) := by decide +kernel
theorem dX3_setWind_53 : decode cX3_setWind 53 = .ok (.iadd, 1) := by decide +kernel
theorem dX3_setWind_54 : decode cX3_setWind 54 = .ok (.sipush 1000, 3) := by decide +kernel
theorem dX3_setWind_57 : decode cX3_setWind 57 = .ok (.invokestatic 99, 3) := by decide +kernel
theorem dX3_setWind_60 : decode cX3_setWind 60 = .ok (.invokevirtual 90, 3) := by decide +kernel
theorem dX3_setWind_63 : decode cX3_setWind 63 = .ok (.ifCond .ne 5, 3) := by decide +kernel
theorem dX3_setWind_66 : decode cX3_setWind 66 = .ok (.iconst 1, 1) := by decide +kernel
theorem dX3_setWind_67 : decode cX3_setWind 67 = .ok (.ireturn, 1) := by decide +kernel
theorem dX3_setWind_68 : decode cX3_setWind 68 = .ok (.aload_n 0, 1) := by decide +kernel
theorem dX3_setWind_69 : decode cX3_setWind 69 = .ok (.getfield 19, 3) := by decide +kernel
theorem dX3_setWind_72 : decode cX3_setWind 72 = .ok (.iload_n 1, 1) := by decide +kernel
theorem dX3_setWind_73 : decode cX3_setWind 73 = .ok (.iload_n 3, 1) := by decide +kernel
theorem dX3_setWind_74 : decode cX3_setWind 74 = .ok (.iastore, 1) := by decide +kernel
theorem dX3_setWind_75 : decode cX3_setWind 75 = .ok (.iconst 0, 1) := by decide +kernel
theorem dX3_setWind_76 : decode cX3_setWind 76 = .ok (.ireturn, 1) := by decide +kernel
theorem dX3_plan_0 : decode cX3_plan 0 = .ok (.aload_n 0, 1) := by decide +kernel
theorem dX3_plan_1 : decode cX3_plan 1 = .ok (.iload_n 1, 1) := by decide +kernel
theorem dX3_plan_2 : decode cX3_plan 2 = .ok (.iload_n 2, 1) := by decide +kernel
theorem dX3_plan_3 : decode cX3_plan 3 = .ok (.iload_n 3, 1) := by decide +kernel
theorem dX3_plan_4 : decode cX3_plan 4 = .ok (.iload 4, 2) := by decide +kernel
theorem dX3_plan_6 : decode cX3_plan 6 = .ok (.iload 5, 2) := by decide +kernel
theorem dX3_plan_8 : decode cX3_plan 8 = .ok (.iload 6, 2) := by decide +kernel
theorem dX3_plan_10 : decode cX3_plan 10 = .ok (.iload 7, 2) := by decide +kernel
theorem dX3_plan_12 : decode cX3_plan 12 = .ok (.invokevirtual 102, 3) := by decide +kernel
theorem dX3_plan_15 : decode cX3_plan 15 = .ok (.astore 8, 2) := by decide +kernel
theorem dX3_plan_17 : decode cX3_plan 17 = .ok (.aload_n 0, 1) := by decide +kernel
theorem dX3_plan_18 : decode cX3_plan 18 = .ok (.aload 8, 2) := by decide +kernel
theorem dX3_plan_20 : decode cX3_plan 20 = .ok (.invokevirtual 106, 3) := by decide +kernel
theorem dX3_plan_23 : decode cX3_plan 23 = .ok (.ifCond .eq 11, 3) := by decide +kernel
theorem dX3_plan_26 : decode cX3_plan 26 = .ok (.aload 8, 2) := by decide +kernel
theorem dX3_plan_28 : decode cX3_plan 28 = .ok (.iconst 0, 1) := by decide +kernel
theorem dX3_plan_29 : decode cX3_plan 29 = .ok (.putfield 110, 3) := by decide +kernel
theorem dX3_plan_32 : decode cX3_plan 32 = .ok (.iconst (-1), 1) := by decide +kernel
theorem dX3_plan_33 : decode cX3_plan 33 = .ok (.ireturn, 1) := by decide +kernel
theorem dX3_plan_34 : decode cX3_plan 34 = .ok (.aload_n 0, 1) := by decide +kernel
theorem dX3_plan_35 : decode cX3_plan 35 = .ok (.dup, 1) := by decide +kernel
theorem dX3_plan_36 : decode cX3_plan 36 = .ok (.getfield 114, 3) := by decide +kernel
theorem dX3_plan_39 : decode cX3_plan 39 = .ok (.iconst 1, 1) := by decide +kernel
theorem dX3_plan_40 : decode cX3_plan 40 = .ok (.iadd, 1) := by decide +kernel
theorem dX3_plan_41 : decode cX3_plan 41 = .ok (.putfield 114, 3) := by decide +kernel
theorem dX3_plan_44 : decode cX3_plan 44 = .ok (.aload_n 0, 1) := by decide +kernel
theorem dX3_plan_45 : decode cX3_plan 45 = .ok (.getfield 114, 3) := by decide +kernel
theorem dX3_plan_48 : decode cX3_plan 48 = .ok (.iconst 1, 1) := by decide +kernel
theorem dX3_plan_49 : decode cX3_plan 49 = .ok (.isub, 1) := by decide +kernel
theorem dX3_plan_50 : decode cX3_plan 50 = .ok (.ireturn, 1) := by decide +kernel
theorem dX3_reason_0 : decode cX3_reason 0 = .ok (.aload_n 0, 1) := by decide +kernel
theorem dX3_reason_1 : decode cX3_reason 1 = .ok (.iload_n 1, 1) := by decide +kernel
theorem dX3_reason_2 : decode cX3_reason 2 = .ok (.iload_n 2, 1) := by decide +kernel
theorem dX3_reason_3 : decode cX3_reason 3 = .ok (.iload_n 3, 1) := by decide +kernel
theorem dX3_reason_4 : decode cX3_reason 4 = .ok (.iload 4, 2) := by decide +kernel
theorem dX3_reason_6 : decode cX3_reason 6 = .ok (.iload 5, 2) := by decide +kernel
theorem dX3_reason_8 : decode cX3_reason 8 = .ok (.iload 6, 2) := by decide +kernel
theorem dX3_reason_10 : decode cX3_reason 10 = .ok (.iload 7, 2) := by decide +kernel
theorem dX3_reason_12 : decode cX3_reason 12 = .ok (.invokevirtual 102, 3) := by decide +kernel
theorem dX3_reason_15 : decode cX3_reason 15 = .ok (.astore 8, 2) := by decide +kernel
theorem dX3_reason_17 : decode cX3_reason 17 = .ok (.aload_n 0, 1) := by decide +kernel
theorem dX3_reason_18 : decode cX3_reason 18 = .ok (.aload 8, 2) := by decide +kernel
theorem dX3_reason_20 : decode cX3_reason 20 = .ok (.invokevirtual 106, 3) := by decide +kernel
theorem dX3_reason_23 : decode cX3_reason 23 = .ok (.istore 9, 2) := by decide +kernel
theorem dX3_reason_25 : decode cX3_reason 25 = .ok (.aload 8, 2) := by decide +kernel
theorem dX3_reason_27 : decode cX3_reason 27 = .ok (.iconst 0, 1) := by decide +kernel
theorem dX3_reason_28 : decode cX3_reason 28 = .ok (.putfield 110, 3) := by decide +kernel
theorem dX3_reason_31 : decode cX3_reason 31 = .ok (.iload 9, 2) := by decide +kernel
theorem dX3_reason_33 : decode cX3_reason 33 = .ok (.ireturn, 1) := by decide +kernel
theorem dX3_move_0 : decode cX3_move 0 = .ok (.aload_n 0, 1) := by decide +kernel
theorem dX3_move_1 : decode cX3_move 1 = .ok (.iload_n 1, 1) := by decide +kernel
theorem dX3_move_2 : decode cX3_move 2 = .ok (.invokevirtual 117, 3) := by decide +kernel
theorem dX3_move_5 : decode cX3_move 5 = .ok (.iload_n 2, 1) := by decide +kernel
theorem dX3_move_6 : decode cX3_move 6 = .ok (.invokestatic 55, 3) := by decide +kernel
theorem dX3_move_9 : decode cX3_move 9 = .ok (.aload_n 0, 1) := by decide +kernel
theorem dX3_move_10 : decode cX3_move 10 = .ok (.iload_n 1, 1) := by decide +kernel
theorem dX3_move_11 : decode cX3_move 11 = .ok (.invokevirtual 120, 3) := by decide +kernel
theorem dX3_move_14 : decode cX3_move 14 = .ok (.aload_n 0, 1) := by decide +kernel
theorem dX3_move_15 : decode cX3_move 15 = .ok (.getfield 24, 3) := by decide +kernel
theorem dX3_move_18 : decode cX3_move 18 = .ok (.iload_n 1, 1) := by decide +kernel
theorem dX3_move_19 : decode cX3_move 19 = .ok (.aaload, 1) := by decide +kernel
theorem dX3_move_20 : decode cX3_move 20 = .ok (.astore_n 3, 1) := by decide +kernel
theorem dX3_move_21 : decode cX3_move 21 = .ok (.aload_n 3, 1) := by decide +kernel
theorem dX3_move_22 : decode cX3_move 22 = .ok (.getfield 123, 3) := by decide +kernel
theorem dX3_move_25 : decode cX3_move 25 = .ok (.istore 4, 2) := by decide +kernel
theorem dX3_move_27 : decode cX3_move 27 = .ok (.aload_n 3, 1) := by decide +kernel
theorem dX3_move_28 : decode cX3_move 28 = .ok (.iload_n 2, 1) := by decide +kernel
theorem dX3_move_29 : decode cX3_move 29 = .ok (.putfield 123, 3) := by decide +kernel
theorem dX3_move_32 : decode cX3_move 32 = .ok (.aload_n 0, 1) := by decide +kernel
theorem dX3_move_33 : decode cX3_move 33 = .ok (.aload_n 3, 1) := by decide +kernel
theorem dX3_move_34 : decode cX3_move 34 = .ok (.invokevirtual 106, 3) := by decide +kernel
theorem dX3_move_37 : decode cX3_move 37 = .ok (.ifCond .ne 5, 3) := by decide +kernel
theorem dX3_move_40 : decode cX3_move 40 = .ok (.iconst 1, 1) := by decide +kernel
theorem dX3_move_41 : decode cX3_move 41 = .ok (.ireturn, 1) := by decide +kernel
theorem dX3_move_42 : decode cX3_move 42 = .ok (.aload_n 3, 1) := by decide +kernel
theorem dX3_move_43 : decode cX3_move 43 = .ok (.iload 4, 2) := by decide +kernel
theorem dX3_move_45 : decode cX3_move 45 = .ok (.putfield 123, 3) := by decide +kernel
theorem dX3_move_48 : decode cX3_move 48 = .ok (.iconst 0, 1) := by decide +kernel
theorem dX3_move_49 : decode cX3_move 49 = .ok (.ireturn, 1) := by decide +kernel
theorem dX3_drop_0 : decode cX3_drop 0 = .ok (.aload_n 0, 1) := by decide +kernel
theorem dX3_drop_1 : decode cX3_drop 1 = .ok (.iload_n 1, 1) := by decide +kernel
theorem dX3_drop_2 : decode cX3_drop 2 = .ok (.invokevirtual 117, 3) := by decide +kernel
theorem dX3_drop_5 : decode cX3_drop 5 = .ok (.aload_n 0, 1) := by decide +kernel
theorem dX3_drop_6 : decode cX3_drop 6 = .ok (.iload_n 1, 1) := by decide +kernel
theorem dX3_drop_7 : decode cX3_drop 7 = .ok (.invokevirtual 120, 3) := by decide +kernel
theorem dX3_drop_10 : decode cX3_drop 10 = .ok (.aload_n 0, 1) := by decide +kernel
theorem dX3_drop_11 : decode cX3_drop 11 = .ok (.getfield 24, 3) := by decide +kernel
theorem dX3_drop_14 : decode cX3_drop 14 = .ok (.iload_n 1, 1) := by decide +kernel
theorem dX3_drop_15 : decode cX3_drop 15 = .ok (.aaload, 1) := by decide +kernel
theorem dX3_drop_16 : decode cX3_drop 16 = .ok (.iconst 0, 1) := by decide +kernel
theorem dX3_drop_17 : decode cX3_drop 17 = .ok (.putfield 110, 3) := by decide +kernel
theorem dX3_drop_20 : decode cX3_drop 20 = .ok (.return_, 1) := by decide +kernel
theorem dX3_start_0 : decode cX3_start 0 = .ok (.aload_n 0, 1) := by decide +kernel
theorem dX3_start_1 : decode cX3_start 1 = .ok (.iload_n 1, 1) := by decide +kernel
theorem dX3_start_2 : decode cX3_start 2 = .ok (.invokevirtual 117, 3) := by decide +kernel
theorem dX3_start_5 : decode cX3_start 5 = .ok (.aload_n 0, 1) := by decide +kernel
theorem dX3_start_6 : decode cX3_start 6 = .ok (.getfield 24, 3) := by decide +kernel
theorem dX3_start_9 : decode cX3_start 9 = .ok (.iload_n 1, 1) := by decide +kernel
theorem dX3_start_10 : decode cX3_start 10 = .ok (.aaload, 1) := by decide +kernel
theorem dX3_start_11 : decode cX3_start 11 = .ok (.getfield 110, 3) := by decide +kernel
theorem dX3_start_14 : decode cX3_start 14 = .ok (.ifCond .eq 15, 3) := by decide +kernel
theorem dX3_start_17 : decode cX3_start 17 = .ok (.aload_n 0, 1) := by decide +kernel
theorem dX3_start_18 : decode cX3_start 18 = .ok (.getfield 24, 3) := by decide +kernel
theorem dX3_start_21 : decode cX3_start 21 = .ok (.iload_n 1, 1) := by decide +kernel
theorem dX3_start_22 : decode cX3_start 22 = .ok (.aaload, 1) := by decide +kernel
theorem dX3_start_23 : decode cX3_start 23 = .ok (.getfield 123, 3) := by decide +kernel
theorem dX3_start_26 : decode cX3_start 26 = .ok (.goto 4, 3) := by decide +kernel
theorem dX3_start_29 : decode cX3_start 29 = .ok (.iconst (-1), 1) := by decide +kernel
theorem dX3_start_30 : decode cX3_start 30 = .ok (.ireturn, 1) := by decide +kernel
theorem dX3_firstStart_0 : decode cX3_firstStart 0 = .ok (.aload_n 0, 1) := by decide +kernel
theorem dX3_firstStart_1 : decode cX3_firstStart 1 = .ok (.iload_n 1, 1) := by decide +kernel
theorem dX3_firstStart_2 : decode cX3_firstStart 2 = .ok (.invokevirtual 117, 3) := by decide +kernel
theorem dX3_firstStart_5 : decode cX3_firstStart 5 = .ok (.iload_n 2, 1) := by decide +kernel
theorem dX3_firstStart_6 : decode cX3_firstStart 6 = .ok (.invokestatic 55, 3) := by decide +kernel
theorem dX3_firstStart_9 : decode cX3_firstStart 9 = .ok (.aload_n 0, 1) := by decide +kernel
theorem dX3_firstStart_10 : decode cX3_firstStart 10 = .ok (.iload_n 1, 1) := by decide +kernel
theorem dX3_firstStart_11 : decode cX3_firstStart 11 = .ok (.invokevirtual 120, 3) := by decide +kernel
theorem dX3_firstStart_14 : decode cX3_firstStart 14 = .ok (.aload_n 0, 1) := by decide +kernel
theorem dX3_firstStart_15 : decode cX3_firstStart 15 = .ok (.getfield 24, 3) := by decide +kernel
theorem dX3_firstStart_18 : decode cX3_firstStart 18 = .ok (.iload_n 1, 1) := by decide +kernel
theorem dX3_firstStart_19 : decode cX3_firstStart 19 = .ok (.aaload, 1) := by decide +kernel
theorem dX3_firstStart_20 : decode cX3_firstStart 20 = .ok (.astore_n 3, 1) := by decide +kernel
theorem dX3_firstStart_21 : decode cX3_firstStart 21 = .ok (.aload_n 3, 1) := by decide +kernel
theorem dX3_firstStart_22 : decode cX3_firstStart 22 = .ok (.getfield 123, 3) := by decide +kernel
theorem dX3_firstStart_25 : decode cX3_firstStart 25 = .ok (.istore 4, 2) := by decide +kernel
theorem dX3_firstStart_27 : decode cX3_firstStart 27 = .ok (.aload_n 0, 1) := by decide +kernel
theorem dX3_firstStart_28 : decode cX3_firstStart 28 = .ok (.aload_n 3, 1) := by decide +kernel
theorem dX3_firstStart_29 : decode cX3_firstStart 29 = .ok (.iload_n 2, 1) := by decide +kernel
theorem dX3_firstStart_30 : decode cX3_firstStart 30 = .ok (.invokevirtual 126, 3) := by decide +kernel
theorem dX3_firstStart_33 : decode cX3_firstStart 33 = .ok (.istore 5, 2) := by decide +kernel
theorem dX3_firstStart_35 : decode cX3_firstStart 35 = .ok (.aload_n 3, 1) := by decide +kernel
theorem dX3_firstStart_36 : decode cX3_firstStart 36 = .ok (.iload 4, 2) := by decide +kernel
theorem dX3_firstStart_38 : decode cX3_firstStart 38 = .ok (.putfield 123, 3) := by decide +kernel
theorem dX3_firstStart_41 : decode cX3_firstStart 41 = .ok (.iload 5, 2) := by decide +kernel
theorem dX3_firstStart_43 : decode cX3_firstStart 43 = .ok (.ireturn, 1) := by decide +kernel
theorem dX3_type_0 : decode cX3_type 0 = .ok (.iload_n 1, 1) := by decide +kernel
theorem dX3_type_1 : decode cX3_type 1 = .ok (.bipush 97, 2) := by decide +kernel
theorem dX3_type_3 : decode cX3_type 3 = .ok (.bipush 122, 2) := by decide +kernel
theorem dX3_type_5 : decode cX3_type 5 = .ok (.invokestatic 79, 3) := by decide +kernel
theorem dX3_type_8 : decode cX3_type 8 = .ok (.aload_n 0, 1) := by decide +kernel
theorem dX3_type_9 : decode cX3_type 9 = .ok (.getfield 31, 3) := by decide +kernel
theorem dX3_type_12 : decode cX3_type 12 = .ok (.invokevirtual 130, 3) := by decide +kernel
theorem dX3_type_15 : decode cX3_type 15 = .ok (.bipush 6, 2) := by decide +kernel
theorem dX3_type_17 : decode cX3_type 17 = .ok (.if_icmp .lt 13, 3) := by decide +kernel
theorem dX3_type_20 : decode cX3_type 20 = .ok (.new 63, 3) := by decide +kernel
theorem dX3_type_23 : decode cX3_type 23 = .ok (.dup, 1) := by decide +kernel
theorem dX3_type_24 : decode cX3_type 24 = .ok (.ldc 134, 2) := by decide +kernel
theorem dX3_type_26 : decode cX3_type 26 = .ok (.invokespecial 67, 3) := by decide +kernel
theorem dX3_type_29 : decode cX3_type 29 = .ok (.athrow, 1) := by decide +kernel
theorem dX3_type_30 : decode cX3_type 30 = .ok (.aload_n 0, 1) := by decide +kernel
theorem dX3_type_31 : decode cX3_type 31 = .ok (.getfield 31, 3) := by decide +kernel
theorem dX3_type_34 : decode cX3_type 34 = .ok (.iload_n 1, 1) := by decide +kernel
theorem dX3_type_35 : decode cX3_type 35 = .ok (.invokevirtual 136, 3) := by decide +kernel
theorem dX3_type_38 : decode cX3_type 38 = .ok (.pop, 1) := by decide +kernel
theorem dX3_type_39 : decode cX3_type 39 = .ok (.aload_n 0, 1) := by decide +kernel
theorem dX3_type_40 : decode cX3_type 40 = .ok (.getfield 31, 3) := by decide +kernel
theorem dX3_type_43 : decode cX3_type 43 = .ok (.invokevirtual 130, 3) := by decide +kernel
theorem dX3_type_46 : decode cX3_type 46 = .ok (.ireturn, 1) := by decide +kernel
theorem dX3_wipe_0 : decode cX3_wipe 0 = .ok (.aload_n 0, 1) := by decide +kernel
theorem dX3_wipe_1 : decode cX3_wipe 1 = .ok (.getfield 31, 3) := by decide +kernel
theorem dX3_wipe_4 : decode cX3_wipe 4 = .ok (.invokevirtual 130, 3) := by decide +kernel
theorem dX3_wipe_7 : decode cX3_wipe 7 = .ok (.istore_n 1, 1) := by decide +kernel
theorem dX3_wipe_8 : decode cX3_wipe 8 = .ok (.aload_n 0, 1) := by decide +kernel
theorem dX3_wipe_9 : decode cX3_wipe 9 = .ok (.getfield 31, 3) := by decide +kernel
theorem dX3_wipe_12 : decode cX3_wipe 12 = .ok (.iconst 0, 1) := by decide +kernel
theorem dX3_wipe_13 : decode cX3_wipe 13 = .ok (.invokevirtual 140, 3) := by decide +kernel
theorem dX3_wipe_16 : decode cX3_wipe 16 = .ok (.iload_n 1, 1) := by decide +kernel
theorem dX3_wipe_17 : decode cX3_wipe 17 = .ok (.ireturn, 1) := by decide +kernel
theorem dX3_grant_0 : decode cX3_grant 0 = .ok (.aload_n 0, 1) := by decide +kernel
theorem dX3_grant_1 : decode cX3_grant 1 = .ok (.iload_n 1, 1) := by decide +kernel
theorem dX3_grant_2 : decode cX3_grant 2 = .ok (.invokevirtual 117, 3) := by decide +kernel
theorem dX3_grant_5 : decode cX3_grant 5 = .ok (.aload_n 0, 1) := by decide +kernel
theorem dX3_grant_6 : decode cX3_grant 6 = .ok (.iload_n 1, 1) := by decide +kernel
theorem dX3_grant_7 : decode cX3_grant 7 = .ok (.invokevirtual 120, 3) := by decide +kernel
theorem dX3_grant_10 : decode cX3_grant 10 = .ok (.aload_n 0, 1) := by decide +kernel
theorem dX3_grant_11 : decode cX3_grant 11 = .ok (.invokevirtual 143, 3) := by decide +kernel
theorem dX3_grant_14 : decode cX3_grant 14 = .ok (.astore_n 2, 1) := by decide +kernel
theorem dX3_grant_15 : decode cX3_grant 15 = .ok (.aload_n 2, 1) := by decide +kernel
theorem dX3_grant_16 : decode cX3_grant 16 = .ok (.ifnonnull 13, 3) := by decide +kernel
theorem dX3_grant_19 : decode cX3_grant 19 = .ok (.new 63, 3) := by decide +kernel
theorem dX3_grant_22 : decode cX3_grant 22 = .ok (.dup, 1) := by decide +kernel
theorem dX3_grant_23 : decode cX3_grant 23 = .ok (.ldc 147, 2) := by decide +kernel
theorem dX3_grant_25 : decode cX3_grant 25 = .ok (.invokespecial 67, 3) := by decide +kernel
theorem dX3_grant_28 : decode cX3_grant 28 = .ok (.athrow, 1) := by decide +kernel
theorem dX3_grant_29 : decode cX3_grant 29 = .ok (.aload_n 0, 1) := by decide +kernel
theorem dX3_grant_30 : decode cX3_grant 30 = .ok (.getfield 24, 3) := by decide +kernel
theorem dX3_grant_33 : decode cX3_grant 33 = .ok (.iload_n 1, 1) := by decide +kernel
theorem dX3_grant_34 : decode cX3_grant 34 = .ok (.aaload, 1) := by decide +kernel
theorem dX3_grant_35 : decode cX3_grant 35 = .ok (.astore_n 3, 1) := by decide +kernel
theorem dX3_grant_36 : decode cX3_grant 36 = .ok (.aload_n 3, 1) := by decide +kernel
theorem dX3_grant_37 : decode cX3_grant 37 = .ok (.getfield 149, 3) := by decide +kernel
theorem dX3_grant_40 : decode cX3_grant 40 = .ok (.istore 4, 2) := by decide +kernel
theorem dX3_grant_42 : decode cX3_grant 42 = .ok (.aload_n 3, 1) := by decide +kernel
theorem dX3_grant_43 : decode cX3_grant 43 = .ok (.getfield 152, 3) := by decide +kernel
theorem dX3_grant_46 : decode cX3_grant 46 = .ok (.istore 5, 2) := by decide +kernel
theorem dX3_grant_48 : decode cX3_grant 48 = .ok (.aload_n 3, 1) := by decide +kernel
theorem dX3_grant_49 : decode cX3_grant 49 = .ok (.getfield 155, 3) := by decide +kernel
theorem dX3_grant_52 : decode cX3_grant 52 = .ok (.istore 6, 2) := by decide +kernel
theorem dX3_grant_54 : decode cX3_grant 54 = .ok (.aload_n 3, 1) := by decide +kernel
theorem dX3_grant_55 : decode cX3_grant 55 = .ok (.aload_n 2, 1) := by decide +kernel
theorem dX3_grant_56 : decode cX3_grant 56 = .ok (.invokevirtual 158, 3) := by decide +kernel
theorem dX3_grant_59 : decode cX3_grant 59 = .ok (.aload_n 0, 1) := by decide +kernel
theorem dX3_grant_60 : decode cX3_grant 60 = .ok (.aload_n 3, 1) := by decide +kernel
theorem dX3_grant_61 : decode cX3_grant 61 = .ok (.invokevirtual 106, 3) := by decide +kernel
theorem dX3_grant_64 : decode cX3_grant 64 = .ok (.ifCond .ne 5, 3) := by decide +kernel
theorem dX3_grant_67 : decode cX3_grant 67 = .ok (.iconst 1, 1) := by decide +kernel
theorem dX3_grant_68 : decode cX3_grant 68 = .ok (.ireturn, 1) := by decide +kernel
theorem dX3_grant_69 : decode cX3_grant 69 = .ok (.aload_n 3, 1) := by decide +kernel
theorem dX3_grant_70 : decode cX3_grant 70 = .ok (.iload 4, 2) := by decide +kernel
theorem dX3_grant_72 : decode cX3_grant 72 = .ok (.putfield 149, 3) := by decide +kernel
theorem dX3_grant_75 : decode cX3_grant 75 = .ok (.aload_n 3, 1) := by decide +kernel
theorem dX3_grant_76 : decode cX3_grant 76 = .ok (.iload 5, 2) := by decide +kernel
theorem dX3_grant_78 : decode cX3_grant 78 = .ok (.putfield 152, 3) := by decide +kernel
theorem dX3_grant_81 : decode cX3_grant 81 = .ok (.aload_n 3, 1) := by decide +kernel
theorem dX3_grant_82 : decode cX3_grant 82 = .ok (.iload 6, 2) := by decide +kernel
theorem dX3_grant_84 : decode cX3_grant 84 = .ok (.putfield 155, 3) := by decide +kernel
theorem dX3_grant_87 : decode cX3_grant 87 = .ok (.iconst 0, 1) := by decide +kernel
theorem dX3_grant_88 : decode cX3_grant 88 = .ok (.ireturn, 1) := by decide +kernel
theorem dX3_ofAct_0 : decode cX3_ofAct 0 = .ok (.aload_n 0, 1) := by decide +kernel
theorem dX3_ofAct_1 : decode cX3_ofAct 1 = .ok (.iload_n 1, 1) := by decide +kernel
theorem dX3_ofAct_2 : decode cX3_ofAct 2 = .ok (.invokevirtual 117, 3) := by decide +kernel
theorem dX3_ofAct_5 : decode cX3_ofAct 5 = .ok (.iload_n 2, 1) := by decide +kernel
theorem dX3_ofAct_6 : decode cX3_ofAct 6 = .ok (.tableswitch 56 0 2 #[26, 36, 46], 26) := by decide +kernel
theorem dX3_ofAct_32 : decode cX3_ofAct 32 = .ok (.aload_n 0, 1) := by decide +kernel
theorem dX3_ofAct_33 : decode cX3_ofAct 33 = .ok (.getfield 24, 3) := by decide +kernel
theorem dX3_ofAct_36 : decode cX3_ofAct 36 = .ok (.iload_n 1, 1) := by decide +kernel
theorem dX3_ofAct_37 : decode cX3_ofAct 37 = .ok (.aaload, 1) := by decide +kernel
theorem dX3_ofAct_38 : decode cX3_ofAct 38 = .ok (.getfield 149, 3) := by decide +kernel
theorem dX3_ofAct_41 : decode cX3_ofAct 41 = .ok (.ireturn, 1) := by decide +kernel
theorem dX3_ofAct_42 : decode cX3_ofAct 42 = .ok (.aload_n 0, 1) := by decide +kernel
theorem dX3_ofAct_43 : decode cX3_ofAct 43 = .ok (.getfield 24, 3) := by decide +kernel
theorem dX3_ofAct_46 : decode cX3_ofAct 46 = .ok (.iload_n 1, 1) := by decide +kernel
theorem dX3_ofAct_47 : decode cX3_ofAct 47 = .ok (.aaload, 1) := by decide +kernel
theorem dX3_ofAct_48 : decode cX3_ofAct 48 = .ok (.getfield 152, 3) := by decide +kernel
theorem dX3_ofAct_51 : decode cX3_ofAct 51 = .ok (.ireturn, 1) := by decide +kernel
theorem dX3_ofAct_52 : decode cX3_ofAct 52 = .ok (.aload_n 0, 1) := by decide +kernel
theorem dX3_ofAct_53 : decode cX3_ofAct 53 = .ok (.getfield 24, 3) := by decide +kernel
theorem dX3_ofAct_56 : decode cX3_ofAct 56 = .ok (.iload_n 1, 1) := by decide +kernel
theorem dX3_ofAct_57 : decode cX3_ofAct 57 = .ok (.aaload, 1) := by decide +kernel
theorem dX3_ofAct_58 : decode cX3_ofAct 58 = .ok (.getfield 155, 3) := by decide +kernel
theorem dX3_ofAct_61 : decode cX3_ofAct 61 = .ok (.ireturn, 1) := by decide +kernel
theorem dX3_ofAct_62 : decode cX3_ofAct 62 = .ok (.new 94, 3) := by decide +kernel
theorem dX3_ofAct_65 : decode cX3_ofAct 65 = .ok (.dup, 1) := by decide +kernel
theorem dX3_ofAct_66 : decode cX3_ofAct 66 = .ok (.ldc 162, 2) := by decide +kernel
theorem dX3_ofAct_68 : decode cX3_ofAct 68 = .ok (.invokespecial 98, 3) := by decide +kernel
theorem dX3_ofAct_71 : decode cX3_ofAct 71 = .ok (.athrow, 1) := by decide +kernel
theorem dX3_storm_0 : decode cX3_storm 0 = .ok (.iload_n 1, 1) := by decide +kernel
theorem dX3_storm_1 : decode cX3_storm 1 = .ok (.invokestatic 76, 3) := by decide +kernel
theorem dX3_storm_4 : decode cX3_storm 4 = .ok (.iload_n 2, 1) := by decide +kernel
theorem dX3_storm_5 : decode cX3_storm 5 = .ok (.invokestatic 55, 3) := by decide +kernel
theorem dX3_storm_8 : decode cX3_storm 8 = .ok (.iload_n 3, 1) := by decide +kernel
theorem dX3_storm_9 : decode cX3_storm 9 = .ok (.iconst 1, 1) := by decide +kernel
theorem dX3_storm_10 : decode cX3_storm 10 = .ok (.sipush 200, 3) := by decide +kernel
theorem dX3_storm_13 : decode cX3_storm 13 = .ok (.invokestatic 79, 3) := by decide +kernel
theorem dX3_storm_16 : decode cX3_storm 16 = .ok (.aload_n 0, 1) := by decide +kernel
theorem dX3_storm_17 : decode cX3_storm 17 = .ok (.getfield 164, 3) := by decide +kernel
theorem dX3_storm_20 : decode cX3_storm 20 = .ok (.iconst 5, 1) := by decide +kernel
theorem dX3_storm_21 : decode cX3_storm 21 = .ok (.if_icmp .lt 13, 3) := by decide +kernel
theorem dX3_storm_24 : decode cX3_storm 24 = .ok (.new 63, 3) := by decide +kernel
theorem dX3_storm_27 : decode cX3_storm 27 = .ok (.dup, 1) := by decide +kernel
theorem dX3_storm_28 : decode cX3_storm 28 = .ok (.ldc 167, 2) := by decide +kernel
theorem dX3_storm_30 : decode cX3_storm 30 = .ok (.invokespecial 67, 3) := by decide +kernel
theorem dX3_storm_33 : decode cX3_storm 33 = .ok (.athrow, 1) := by decide +kernel
theorem dX3_storm_34 : decode cX3_storm 34 = .ok (.aload_n 0, 1) := by decide +kernel
theorem dX3_storm_35 : decode cX3_storm 35 = .ok (.getfield 37, 3) := by decide +kernel
theorem dX3_storm_38 : decode cX3_storm 38 = .ok (.aload_n 0, 1) := by decide +kernel
theorem dX3_storm_39 : decode cX3_storm 39 = .ok (.getfield 164, 3) := by decide +kernel
theorem dX3_storm_42 : decode cX3_storm 42 = .ok (.aaload, 1) := by decide +kernel
theorem dX3_storm_43 : decode cX3_storm 43 = .ok (.astore 4, 2) := by decide +kernel
theorem dX3_storm_45 : decode cX3_storm 45 = .ok (.aload_n 0, 1) := by decide +kernel
theorem dX3_storm_46 : decode cX3_storm 46 = .ok (.dup, 1) := by decide +kernel
theorem dX3_storm_47 : decode cX3_storm 47 = .ok (.getfield 164, 3) := by decide +kernel
theorem dX3_storm_50 : decode cX3_storm 50 = .ok (.iconst 1, 1) := by decide +kernel
theorem dX3_storm_51 : decode cX3_storm 51 = .ok (.iadd, 1) := by decide +kernel
theorem dX3_storm_52 : decode cX3_storm 52 = .ok (.putfield 164, 3) := by decide +kernel
theorem dX3_storm_55 : decode cX3_storm 55 = .ok (.aload 4, 2) := by decide +kernel
theorem dX3_storm_57 : decode cX3_storm 57 = .ok (.iload_n 1, 1) := by decide +kernel
theorem dX3_storm_58 : decode cX3_storm 58 = .ok (.putfield 169, 3) := by decide +kernel
theorem dX3_storm_61 : decode cX3_storm 61 = .ok (.aload 4, 2) := by decide +kernel
theorem dX3_storm_63 : decode cX3_storm 63 = .ok (.iload_n 2, 1) := by decide +kernel
theorem dX3_storm_64 : decode cX3_storm 64 = .ok (.putfield 172, 3) := by decide +kernel
theorem dX3_storm_67 : decode cX3_storm 67 = .ok (.aload 4, 2) := by decide +kernel
theorem dX3_storm_69 : decode cX3_storm 69 = .ok (.iload_n 2, 1) := by decide +kernel
theorem dX3_storm_70 : decode cX3_storm 70 = .ok (.iload_n 3, 1) := by decide +kernel
theorem dX3_storm_71 : decode cX3_storm 71 = .ok (.iadd, 1) := by decide +kernel
theorem dX3_storm_72 : decode cX3_storm 72 = .ok (.sipush 1000, 3) := by decide +kernel
theorem dX3_storm_75 : decode cX3_storm 75 = .ok (.invokestatic 99, 3) := by decide +kernel
theorem dX3_storm_78 : decode cX3_storm 78 = .ok (.putfield 175, 3) := by decide +kernel
theorem dX3_storm_81 : decode cX3_storm 81 = .ok (.aload_n 0, 1) := by decide +kernel
theorem dX3_storm_82 : decode cX3_storm 82 = .ok (.aload 4, 2) := by decide +kernel
theorem dX3_storm_84 : decode cX3_storm 84 = .ok (.invokevirtual 178, 3) := by decide +kernel
theorem dX3_storm_87 : decode cX3_storm 87 = .ok (.aload_n 0, 1) := by decide +kernel
theorem dX3_storm_88 : decode cX3_storm 88 = .ok (.aload 4, 2) := by decide +kernel
theorem dX3_storm_90 : decode cX3_storm 90 = .ok (.getfield 175, 3) := by decide +kernel
theorem dX3_storm_93 : decode cX3_storm 93 = .ok (.invokevirtual 182, 3) := by decide +kernel
theorem dX3_storm_96 : decode cX3_storm 96 = .ok (.ireturn, 1) := by decide +kernel
theorem dX3_load_0 : decode cX3_load 0 = .ok (.iload_n 2, 1) := by decide +kernel
theorem dX3_load_1 : decode cX3_load 1 = .ok (.invokestatic 185, 3) := by decide +kernel
theorem dX3_load_4 : decode cX3_load 4 = .ok (.iload_n 1, 1) := by decide +kernel
theorem dX3_load_5 : decode cX3_load 5 = .ok (.invokestatic 55, 3) := by decide +kernel
theorem dX3_load_8 : decode cX3_load 8 = .ok (.aload_n 0, 1) := by decide +kernel
theorem dX3_load_9 : decode cX3_load 9 = .ok (.iload_n 1, 1) := by decide +kernel
theorem dX3_load_10 : decode cX3_load 10 = .ok (.invokevirtual 188, 3) := by decide +kernel
theorem dX3_load_13 : decode cX3_load 13 = .ok (.aload_n 0, 1) := by decide +kernel
theorem dX3_load_14 : decode cX3_load 14 = .ok (.getfield 41, 3) := by decide +kernel
theorem dX3_load_17 : decode cX3_load 17 = .ok (.iload_n 2, 1) := by decide +kernel
theorem dX3_load_18 : decode cX3_load 18 = .ok (.iaload, 1) := by decide +kernel
theorem dX3_load_19 : decode cX3_load 19 = .ok (.ireturn, 1) := by decide +kernel
theorem dX3_noise_0 : decode cX3_noise 0 = .ok (.iload_n 2, 1) := by decide +kernel
theorem dX3_noise_1 : decode cX3_noise 1 = .ok (.invokestatic 87, 3) := by decide +kernel
theorem dX3_noise_4 : decode cX3_noise 4 = .ok (.iload_n 1, 1) := by decide +kernel
theorem dX3_noise_5 : decode cX3_noise 5 = .ok (.invokestatic 55, 3) := by decide +kernel
theorem dX3_noise_8 : decode cX3_noise 8 = .ok (.aload_n 0, 1) := by decide +kernel
theorem dX3_noise_9 : decode cX3_noise 9 = .ok (.iload_n 1, 1) := by decide +kernel
theorem dX3_noise_10 : decode cX3_noise 10 = .ok (.invokevirtual 188, 3) := by decide +kernel
theorem dX3_noise_13 : decode cX3_noise 13 = .ok (.aload_n 0, 1) := by decide +kernel
theorem dX3_noise_14 : decode cX3_noise 14 = .ok (.getfield 44, 3) := by decide +kernel
theorem dX3_noise_17 : decode cX3_noise 17 = .ok (.iload_n 2, 1) := by decide +kernel
theorem dX3_noise_18 : decode cX3_noise 18 = .ok (.iaload, 1) := by decide +kernel
theorem dX3_noise_19 : decode cX3_noise 19 = .ok (.ireturn, 1) := by decide +kernel
theorem dX3_channels_0 : decode cX3_channels 0 = .ok (.iload_n 1, 1) := by decide +kernel
theorem dX3_channels_1 : decode cX3_channels 1 = .ok (.invokestatic 55, 3) := by decide +kernel
theorem dX3_channels_4 : decode cX3_channels 4 = .ok (.aload_n 0, 1) := by decide +kernel
theorem dX3_channels_5 : decode cX3_channels 5 = .ok (.iload_n 1, 1) := by decide +kernel
theorem dX3_channels_6 : decode cX3_channels 6 = .ok (.invokevirtual 188, 3) := by decide +kernel
theorem dX3_channels_9 : decode cX3_channels 9 = .ok (.aload_n 0, 1) := by decide +kernel
theorem dX3_channels_10 : decode cX3_channels 10 = .ok (.getfield 191, 3) := by decide +kernel
theorem dX3_channels_13 : decode cX3_channels 13 = .ok (.ireturn, 1) := by decide +kernel
theorem dX3_isFineByMinutes_0 : decode cX3_isFineByMinutes 0 = .ok (.aload_n 0, 1) := by decide +kernel
theorem dX3_isFineByMinutes_1 : decode cX3_isFineByMinutes 1 = .ok (.getfield 24, 3) := by decide +kernel
theorem dX3_isFineByMinutes_4 : decode cX3_isFineByMinutes 4 = .ok (.astore_n 1, 1) := by decide +kernel
theorem dX3_isFineByMinutes_5 : decode cX3_isFineByMinutes 5 = .ok (.aload_n 1, 1) := by decide +kernel
theorem dX3_isFineByMinutes_6 : decode cX3_isFineByMinutes 6 = .ok (.arraylength, 1) := by decide +kernel
theorem dX3_isFineByMinutes_7 : decode cX3_isFineByMinutes 7 = .ok (.istore_n 2, 1) := by decide +kernel
theorem dX3_isFineByMinutes_8 : decode cX3_isFineByMinutes 8 = .ok (.iconst 0, 1) := by decide +kernel
theorem dX3_isFineByMinutes_9 : decode cX3_isFineByMinutes 9 = .ok (.istore_n 3, 1) := by decide +kernel
theorem dX3_isFineByMinutes_10 : decode cX3_isFineByMinutes 10 = .ok (.iload_n 3, 1) := by decide +kernel
theorem dX3_isFineByMinutes_11 : decode cX3_isFineByMinutes 11 = .ok (.iload_n 2, 1) := by decide +kernel
theorem dX3_isFineByMinutes_12 : decode cX3_isFineByMinutes 12 = .ok (.if_icmp .ge 35, 3) := by decide +kernel
theorem dX3_isFineByMinutes_15 : decode cX3_isFineByMinutes 15 = .ok (.aload_n 1, 1) := by decide +kernel
theorem dX3_isFineByMinutes_16 : decode cX3_isFineByMinutes 16 = .ok (.iload_n 3, 1) := by decide +kernel
theorem dX3_isFineByMinutes_17 : decode cX3_isFineByMinutes 17 = .ok (.aaload, 1) := by decide +kernel
theorem dX3_isFineByMinutes_18 : decode cX3_isFineByMinutes 18 = .ok (.astore 4, 2) := by decide +kernel
theorem dX3_isFineByMinutes_20 : decode cX3_isFineByMinutes 20 = .ok (.aload 4, 2) := by decide +kernel
theorem dX3_isFineByMinutes_22 : decode cX3_isFineByMinutes 22 = .ok (.getfield 110, 3) := by decide +kernel
theorem dX3_isFineByMinutes_25 : decode cX3_isFineByMinutes 25 = .ok (.ifCond .eq 16, 3) := by decide +kernel
theorem dX3_isFineByMinutes_28 : decode cX3_isFineByMinutes 28 = .ok (.aload 4, 2) := by decide +kernel
theorem dX3_isFineByMinutes_30 : decode cX3_isFineByMinutes 30 = .ok (.invokevirtual 194, 3) := by decide +kernel
theorem dX3_isFineByMinutes_33 : decode cX3_isFineByMinutes 33 = .ok (.sipush 1000, 3) := by decide +kernel
theorem dX3_isFineByMinutes_36 : decode cX3_isFineByMinutes 36 = .ok (.if_icmp .le 5, 3) := by decide +kernel
theorem dX3_isFineByMinutes_39 : decode cX3_isFineByMinutes 39 = .ok (.iconst 0, 1) := by decide +kernel
theorem dX3_isFineByMinutes_40 : decode cX3_isFineByMinutes 40 = .ok (.ireturn, 1) := by decide +kernel
theorem dX3_isFineByMinutes_41 : decode cX3_isFineByMinutes 41 = .ok (.iinc 3 1, 3) := by decide +kernel
theorem dX3_isFineByMinutes_44 : decode cX3_isFineByMinutes 44 = .ok (.goto (-34), 3) := by decide +kernel
theorem dX3_isFineByMinutes_47 : decode cX3_isFineByMinutes 47 = .ok (.iconst 0, 1) := by decide +kernel
theorem dX3_isFineByMinutes_48 : decode cX3_isFineByMinutes 48 = .ok (.istore_n 1, 1) := by decide +kernel
theorem dX3_isFineByMinutes_49 : decode cX3_isFineByMinutes 49 = .ok (.iload_n 1, 1) := by decide +kernel
theorem dX3_isFineByMinutes_50 : decode cX3_isFineByMinutes 50 = .ok (.sipush 1000, 3) := by decide +kernel
theorem dX3_isFineByMinutes_53 : decode cX3_isFineByMinutes 53 = .ok (.if_icmp .ge 27, 3) := by decide +kernel
theorem dX3_isFineByMinutes_56 : decode cX3_isFineByMinutes 56 = .ok (.aload_n 0, 1) := by decide +kernel
theorem dX3_isFineByMinutes_57 : decode cX3_isFineByMinutes 57 = .ok (.iload_n 1, 1) := by decide +kernel
theorem dX3_isFineByMinutes_58 : decode cX3_isFineByMinutes 58 = .ok (.invokevirtual 196, 3) := by decide +kernel
theorem dX3_isFineByMinutes_61 : decode cX3_isFineByMinutes 61 = .ok (.ifCond .eq 11, 3) := by decide +kernel
theorem dX3_isFineByMinutes_64 : decode cX3_isFineByMinutes 64 = .ok (.aload_n 0, 1) := by decide +kernel
theorem dX3_isFineByMinutes_65 : decode cX3_isFineByMinutes 65 = .ok (.iload_n 1, 1) := by decide +kernel
theorem dX3_isFineByMinutes_66 : decode cX3_isFineByMinutes 66 = .ok (.invokevirtual 199, 3) := by decide +kernel
theorem dX3_isFineByMinutes_69 : decode cX3_isFineByMinutes 69 = .ok (.ifCond .eq 5, 3) := by decide +kernel
theorem dX3_isFineByMinutes_72 : decode cX3_isFineByMinutes 72 = .ok (.iconst 0, 1) := by decide +kernel
theorem dX3_isFineByMinutes_73 : decode cX3_isFineByMinutes 73 = .ok (.ireturn, 1) := by decide +kernel
theorem dX3_isFineByMinutes_74 : decode cX3_isFineByMinutes 74 = .ok (.iinc 1 1, 3) := by decide +kernel
theorem dX3_isFineByMinutes_77 : decode cX3_isFineByMinutes 77 = .ok (.goto (-28), 3) := by decide +kernel
theorem dX3_isFineByMinutes_80 : decode cX3_isFineByMinutes 80 = .ok (.iconst 1, 1) := by decide +kernel
theorem dX3_isFineByMinutes_81 : decode cX3_isFineByMinutes 81 = .ok (.ireturn, 1) := by decide +kernel
theorem dX3_requireRange_0 : decode cX3_requireRange 0 = .ok (.iload_n 0, 1) := by decide +kernel
theorem dX3_requireRange_1 : decode cX3_requireRange 1 = .ok (.iload_n 1, 1) := by decide +kernel
theorem dX3_requireRange_2 : decode cX3_requireRange 2 = .ok (.if_icmp .lt 8, 3) := by decide +kernel
theorem dX3_requireRange_5 : decode cX3_requireRange 5 = .ok (.iload_n 0, 1) := by decide +kernel
theorem dX3_requireRange_6 : decode cX3_requireRange 6 = .ok (.iload_n 2, 1) := by decide +kernel
theorem dX3_requireRange_7 : decode cX3_requireRange 7 = .ok (.if_icmp .le 13, 3) := by decide +kernel
theorem dX3_requireRange_10 : decode cX3_requireRange 10 = .ok (.new 202, 3) := by decide +kernel
theorem dX3_requireRange_13 : decode cX3_requireRange 13 = .ok (.dup, 1) := by decide +kernel
theorem dX3_requireRange_14 : decode cX3_requireRange 14 = .ok (.ldc 204, 2) := by decide +kernel
theorem dX3_requireRange_16 : decode cX3_requireRange 16 = .ok (.invokespecial 206, 3) := by decide +kernel
theorem dX3_requireRange_19 : decode cX3_requireRange 19 = .ok (.athrow, 1) := by decide +kernel
theorem dX3_requireRange_20 : decode cX3_requireRange 20 = .ok (.return_, 1) := by decide +kernel
theorem dX3_requireMinute_0 : decode cX3_requireMinute 0 = .ok (.iload_n 0, 1) := by decide +kernel
theorem dX3_requireMinute_1 : decode cX3_requireMinute 1 = .ok (.iconst 0, 1) := by decide +kernel
theorem dX3_requireMinute_2 : decode cX3_requireMinute 2 = .ok (.sipush 999, 3) := by decide +kernel
theorem dX3_requireMinute_5 : decode cX3_requireMinute 5 = .ok (.invokestatic 79, 3) := by decide +kernel
theorem dX3_requireMinute_8 : decode cX3_requireMinute 8 = .ok (.return_, 1) := by decide +kernel
theorem dX3_requireStage_0 : decode cX3_requireStage 0 = .ok (.iload_n 0, 1) := by decide +kernel
theorem dX3_requireStage_1 : decode cX3_requireStage 1 = .ok (.ifCond .lt 8, 3) := by decide +kernel
theorem dX3_requireStage_4 : decode cX3_requireStage 4 = .ok (.iload_n 0, 1) := by decide +kernel
theorem dX3_requireStage_5 : decode cX3_requireStage 5 = .ok (.iconst 3, 1) := by decide +kernel
theorem dX3_requireStage_6 : decode cX3_requireStage 6 = .ok (.if_icmp .lt 13, 3) := by decide +kernel
theorem dX3_requireStage_9 : decode cX3_requireStage 9 = .ok (.new 94, 3) := by decide +kernel
theorem dX3_requireStage_12 : decode cX3_requireStage 12 = .ok (.dup, 1) := by decide +kernel
theorem dX3_requireStage_13 : decode cX3_requireStage 13 = .ok (.ldc 207, 2) := by decide +kernel
theorem dX3_requireStage_15 : decode cX3_requireStage 15 = .ok (.invokespecial 98, 3) := by decide +kernel
theorem dX3_requireStage_18 : decode cX3_requireStage 18 = .ok (.athrow, 1) := by decide +kernel
theorem dX3_requireStage_19 : decode cX3_requireStage 19 = .ok (.return_, 1) := by decide +kernel
theorem dX3_requireHouse_0 : decode cX3_requireHouse 0 = .ok (.iload_n 0, 1) := by decide +kernel
theorem dX3_requireHouse_1 : decode cX3_requireHouse 1 = .ok (.ifCond .lt 8, 3) := by decide +kernel
theorem dX3_requireHouse_4 : decode cX3_requireHouse 4 = .ok (.iload_n 0, 1) := by decide +kernel
theorem dX3_requireHouse_5 : decode cX3_requireHouse 5 = .ok (.iconst 3, 1) := by decide +kernel
theorem dX3_requireHouse_6 : decode cX3_requireHouse 6 = .ok (.if_icmp .lt 13, 3) := by decide +kernel
theorem dX3_requireHouse_9 : decode cX3_requireHouse 9 = .ok (.new 94, 3) := by decide +kernel
theorem dX3_requireHouse_12 : decode cX3_requireHouse 12 = .ok (.dup, 1) := by decide +kernel
theorem dX3_requireHouse_13 : decode cX3_requireHouse 13 = .ok (.ldc 209, 2) := by decide +kernel
theorem dX3_requireHouse_15 : decode cX3_requireHouse 15 = .ok (.invokespecial 98, 3) := by decide +kernel
theorem dX3_requireHouse_18 : decode cX3_requireHouse 18 = .ok (.athrow, 1) := by decide +kernel
theorem dX3_requireHouse_19 : decode cX3_requireHouse 19 = .ok (.return_, 1) := by decide +kernel
theorem dX3_requirePhase_0 : decode cX3_requirePhase 0 = .ok (.iload_n 0, 1) := by decide +kernel
theorem dX3_requirePhase_1 : decode cX3_requirePhase 1 = .ok (.ifCond .lt 8, 3) := by decide +kernel
theorem dX3_requirePhase_4 : decode cX3_requirePhase 4 = .ok (.iload_n 0, 1) := by decide +kernel
theorem dX3_requirePhase_5 : decode cX3_requirePhase 5 = .ok (.iconst 3, 1) := by decide +kernel
theorem dX3_requirePhase_6 : decode cX3_requirePhase 6 = .ok (.if_icmp .lt 13, 3) := by decide +kernel
theorem dX3_requirePhase_9 : decode cX3_requirePhase 9 = .ok (.new 94, 3) := by decide +kernel
theorem dX3_requirePhase_12 : decode cX3_requirePhase 12 = .ok (.dup, 1) := by decide +kernel
theorem dX3_requirePhase_13 : decode cX3_requirePhase 13 = .ok (.ldc 211, 2) := by decide +kernel
theorem dX3_requirePhase_15 : decode cX3_requirePhase 15 = .ok (.invokespecial 98, 3) := by decide +kernel
theorem dX3_requirePhase_18 : decode cX3_requirePhase 18 = .ok (.athrow, 1) := by decide +kernel
theorem dX3_requirePhase_19 : decode cX3_requirePhase 19 = .ok (.return_, 1) := by decide +kernel
theorem dX3_requireAct_0 : decode cX3_requireAct 0 = .ok (.iload_n 1, 1) := by decide +kernel
theorem dX3_requireAct_1 : decode cX3_requireAct 1 = .ok (.ifCond .lt 11, 3) := by decide +kernel
theorem dX3_requireAct_4 : decode cX3_requireAct 4 = .ok (.iload_n 1, 1) := by decide +kernel
theorem dX3_requireAct_5 : decode cX3_requireAct 5 = .ok (.aload_n 0, 1) := by decide +kernel
theorem dX3_requireAct_6 : decode cX3_requireAct 6 = .ok (.getfield 114, 3) := by decide +kernel
theorem dX3_requireAct_9 : decode cX3_requireAct 9 = .ok (.if_icmp .lt 13, 3) := by decide +kernel
theorem dX3_requireAct_12 : decode cX3_requireAct 12 = .ok (.new 94, 3) := by decide +kernel
theorem dX3_requireAct_15 : decode cX3_requireAct 15 = .ok (.dup, 1) := by decide +kernel
theorem dX3_requireAct_16 : decode cX3_requireAct 16 = .ok (.ldc 213, 2) := by decide +kernel
theorem dX3_requireAct_18 : decode cX3_requireAct 18 = .ok (.invokespecial 98, 3) := by decide +kernel
theorem dX3_requireAct_21 : decode cX3_requireAct 21 = .ok (.athrow, 1) := by decide +kernel
theorem dX3_requireAct_22 : decode cX3_requireAct 22 = .ok (.return_, 1) := by decide +kernel
theorem dX3_requirePlanned_0 : decode cX3_requirePlanned 0 = .ok (.aload_n 0, 1) := by decide +kernel
theorem dX3_requirePlanned_1 : decode cX3_requirePlanned 1 = .ok (.getfield 24, 3) := by decide +kernel
theorem dX3_requirePlanned_4 : decode cX3_requirePlanned 4 = .ok (.iload_n 1, 1) := by decide +kernel
theorem dX3_requirePlanned_5 : decode cX3_requirePlanned 5 = .ok (.aaload, 1) := by decide +kernel
theorem dX3_requirePlanned_6 : decode cX3_requirePlanned 6 = .ok (.getfield 110, 3) := by decide +kernel
theorem dX3_requirePlanned_9 : decode cX3_requirePlanned 9 = .ok (.ifCond .ne 13, 3) := by decide +kernel
theorem dX3_requirePlanned_12 : decode cX3_requirePlanned 12 = .ok (.new 63, 3) := by decide +kernel
theorem dX3_requirePlanned_15 : decode cX3_requirePlanned 15 = .ok (.dup, 1) := by decide +kernel
theorem dX3_requirePlanned_16 : decode cX3_requirePlanned 16 = .ok (.ldc 215, 2) := by decide +kernel
theorem dX3_requirePlanned_18 : decode cX3_requirePlanned 18 = .ok (.invokespecial 67, 3) := by decide +kernel
theorem dX3_requirePlanned_21 : decode cX3_requirePlanned 21 = .ok (.athrow, 1) := by decide +kernel
theorem dX3_requirePlanned_22 : decode cX3_requirePlanned 22 = .ok (.return_, 1) := by decide +kernel
theorem dX3_tryAct_0 : decode cX3_tryAct 0 = .ok (.iload_n 1, 1) := by decide +kernel
theorem dX3_tryAct_1 : decode cX3_tryAct 1 = .ok (.invokestatic 76, 3) := by decide +kernel
theorem dX3_tryAct_4 : decode cX3_tryAct 4 = .ok (.iload 4, 2) := by decide +kernel
theorem dX3_tryAct_6 : decode cX3_tryAct 6 = .ok (.invokestatic 185, 3) := by decide +kernel
theorem dX3_tryAct_9 : decode cX3_tryAct 9 = .ok (.iload_n 2, 1) := by decide +kernel
theorem dX3_tryAct_10 : decode cX3_tryAct 10 = .ok (.invokestatic 55, 3) := by decide +kernel
theorem dX3_tryAct_13 : decode cX3_tryAct 13 = .ok (.iload_n 3, 1) := by decide +kernel
theorem dX3_tryAct_14 : decode cX3_tryAct 14 = .ok (.iconst 1, 1) := by decide +kernel
theorem dX3_tryAct_15 : decode cX3_tryAct 15 = .ok (.sipush 200, 3) := by decide +kernel
theorem dX3_tryAct_18 : decode cX3_tryAct 18 = .ok (.invokestatic 79, 3) := by decide +kernel
theorem dX3_tryAct_21 : decode cX3_tryAct 21 = .ok (.iload 5, 2) := by decide +kernel
theorem dX3_tryAct_23 : decode cX3_tryAct 23 = .ok (.iconst 0, 1) := by decide +kernel
theorem dX3_tryAct_24 : decode cX3_tryAct 24 = .ok (.sipush 200, 3) := by decide +kernel
theorem dX3_tryAct_27 : decode cX3_tryAct 27 = .ok (.invokestatic 79, 3) := by decide +kernel
theorem dX3_tryAct_30 : decode cX3_tryAct 30 = .ok (.iload 6, 2) := by decide +kernel
theorem dX3_tryAct_32 : decode cX3_tryAct 32 = .ok (.iconst 0, 1) := by decide +kernel
theorem dX3_tryAct_33 : decode cX3_tryAct 33 = .ok (.sipush 200, 3) := by decide +kernel
theorem dX3_tryAct_36 : decode cX3_tryAct 36 = .ok (.invokestatic 79, 3) := by decide +kernel
theorem dX3_tryAct_39 : decode cX3_tryAct 39 = .ok (.iload 7, 2) := by decide +kernel
theorem dX3_tryAct_41 : decode cX3_tryAct 41 = .ok (.iconst (-1), 1) := by decide +kernel
theorem dX3_tryAct_42 : decode cX3_tryAct 42 = .ok (.bipush 31, 2) := by decide +kernel
theorem dX3_tryAct_44 : decode cX3_tryAct 44 = .ok (.invokestatic 79, 3) := by decide +kernel
theorem dX3_tryAct_47 : decode cX3_tryAct 47 = .ok (.aload_n 0, 1) := by decide +kernel
theorem dX3_tryAct_48 : decode cX3_tryAct 48 = .ok (.getfield 114, 3) := by decide +kernel
theorem dX3_tryAct_51 : decode cX3_tryAct 51 = .ok (.bipush 16, 2) := by decide +kernel
theorem dX3_tryAct_53 : decode cX3_tryAct 53 = .ok (.if_icmp .lt 13, 3) := by decide +kernel
theorem dX3_tryAct_56 : decode cX3_tryAct 56 = .ok (.new 63, 3) := by decide +kernel
theorem dX3_tryAct_59 : decode cX3_tryAct 59 = .ok (.dup, 1) := by decide +kernel
theorem dX3_tryAct_60 : decode cX3_tryAct 60 = .ok (.ldc 217, 2) := by decide +kernel
theorem dX3_tryAct_62 : decode cX3_tryAct 62 = .ok (.invokespecial 67, 3) := by decide +kernel
theorem dX3_tryAct_65 : decode cX3_tryAct 65 = .ok (.athrow, 1) := by decide +kernel
theorem dX3_tryAct_66 : decode cX3_tryAct 66 = .ok (.aload_n 0, 1) := by decide +kernel
theorem dX3_tryAct_67 : decode cX3_tryAct 67 = .ok (.getfield 24, 3) := by decide +kernel
theorem dX3_tryAct_70 : decode cX3_tryAct 70 = .ok (.aload_n 0, 1) := by decide +kernel
theorem dX3_tryAct_71 : decode cX3_tryAct 71 = .ok (.getfield 114, 3) := by decide +kernel
theorem dX3_tryAct_74 : decode cX3_tryAct 74 = .ok (.aaload, 1) := by decide +kernel
theorem dX3_tryAct_75 : decode cX3_tryAct 75 = .ok (.astore 8, 2) := by decide +kernel
theorem dX3_tryAct_77 : decode cX3_tryAct 77 = .ok (.aload 8, 2) := by decide +kernel
theorem dX3_tryAct_79 : decode cX3_tryAct 79 = .ok (.iload_n 1, 1) := by decide +kernel
theorem dX3_tryAct_80 : decode cX3_tryAct 80 = .ok (.putfield 219, 3) := by decide +kernel
theorem dX3_tryAct_83 : decode cX3_tryAct 83 = .ok (.aload 8, 2) := by decide +kernel
theorem dX3_tryAct_85 : decode cX3_tryAct 85 = .ok (.iload_n 2, 1) := by decide +kernel
theorem dX3_tryAct_86 : decode cX3_tryAct 86 = .ok (.putfield 123, 3) := by decide +kernel
theorem dX3_tryAct_89 : decode cX3_tryAct 89 = .ok (.aload 8, 2) := by decide +kernel
theorem dX3_tryAct_91 : decode cX3_tryAct 91 = .ok (.iload_n 3, 1) := by decide +kernel
theorem dX3_tryAct_92 : decode cX3_tryAct 92 = .ok (.putfield 220, 3) := by decide +kernel
theorem dX3_tryAct_95 : decode cX3_tryAct 95 = .ok (.aload 8, 2) := by decide +kernel
theorem dX3_tryAct_97 : decode cX3_tryAct 97 = .ok (.iload 4, 2) := by decide +kernel
theorem dX3_tryAct_99 : decode cX3_tryAct 99 = .ok (.putfield 222, 3) := by decide +kernel
theorem dX3_tryAct_102 : decode cX3_tryAct 102 = .ok (.aload 8, 2) := by decide +kernel
theorem dX3_tryAct_104 : decode cX3_tryAct 104 = .ok (.iload 5, 2) := by decide +kernel
theorem dX3_tryAct_106 : decode cX3_tryAct 106 = .ok (.putfield 149, 3) := by decide +kernel
theorem dX3_tryAct_109 : decode cX3_tryAct 109 = .ok (.aload 8, 2) := by decide +kernel
theorem dX3_tryAct_111 : decode cX3_tryAct 111 = .ok (.iload 6, 2) := by decide +kernel
theorem dX3_tryAct_113 : decode cX3_tryAct 113 = .ok (.putfield 152, 3) := by decide +kernel
theorem dX3_tryAct_116 : decode cX3_tryAct 116 = .ok (.aload 8, 2) := by decide +kernel
theorem dX3_tryAct_118 : decode cX3_tryAct 118 = .ok (.iload 7, 2) := by decide +kernel
theorem dX3_tryAct_120 : decode cX3_tryAct 120 = .ok (.putfield 155, 3) := by decide +kernel
theorem dX3_tryAct_123 : decode cX3_tryAct 123 = .ok (.aload 8, 2) := by decide +kernel
theorem dX3_tryAct_125 : decode cX3_tryAct 125 = .ok (.iconst 1, 1) := by decide +kernel
theorem dX3_tryAct_126 : decode cX3_tryAct 126 = .ok (.putfield 110, 3) := by decide +kernel
theorem dX3_tryAct_129 : decode cX3_tryAct 129 = .ok (.aload 8, 2) := by decide +kernel
theorem dX3_tryAct_131 : decode cX3_tryAct 131 = .ok (.areturn, 1) := by decide +kernel
theorem dX3_isStageFine_0 : decode cX3_isStageFine 0 = .ok (.aload_n 0, 1) := by decide +kernel
theorem dX3_isStageFine_1 : decode cX3_isStageFine 1 = .ok (.getfield 24, 3) := by decide +kernel
theorem dX3_isStageFine_4 : decode cX3_isStageFine 4 = .ok (.astore_n 2, 1) := by decide +kernel
theorem dX3_isStageFine_5 : decode cX3_isStageFine 5 = .ok (.aload_n 2, 1) := by decide +kernel
theorem dX3_isStageFine_6 : decode cX3_isStageFine 6 = .ok (.arraylength, 1) := by decide +kernel
theorem dX3_isStageFine_7 : decode cX3_isStageFine 7 = .ok (.istore_n 3, 1) := by decide +kernel
theorem dX3_isStageFine_8 : decode cX3_isStageFine 8 = .ok (.iconst 0, 1) := by decide +kernel
theorem dX3_isStageFine_9 : decode cX3_isStageFine 9 = .ok (.istore 4, 2) := by decide +kernel
theorem dX3_isStageFine_11 : decode cX3_isStageFine 11 = .ok (.iload 4, 2) := by decide +kernel
theorem dX3_isStageFine_13 : decode cX3_isStageFine 13 = .ok (.iload_n 3, 1) := by decide +kernel
theorem dX3_isStageFine_14 : decode cX3_isStageFine 14 = .ok (.if_icmp .ge 43, 3) := by decide +kernel
theorem dX3_isStageFine_17 : decode cX3_isStageFine 17 = .ok (.aload_n 2, 1) := by decide +kernel
theorem dX3_isStageFine_18 : decode cX3_isStageFine 18 = .ok (.iload 4, 2) := by decide +kernel
theorem dX3_isStageFine_20 : decode cX3_isStageFine 20 = .ok (.aaload, 1) := by decide +kernel
theorem dX3_isStageFine_21 : decode cX3_isStageFine 21 = .ok (.astore 5, 2) := by decide +kernel
theorem dX3_isStageFine_23 : decode cX3_isStageFine 23 = .ok (.aload 5, 2) := by decide +kernel
theorem dX3_isStageFine_25 : decode cX3_isStageFine 25 = .ok (.getfield 110, 3) := by decide +kernel
theorem dX3_isStageFine_28 : decode cX3_isStageFine 28 = .ok (.ifCond .eq 23, 3) := by decide +kernel
theorem dX3_isStageFine_31 : decode cX3_isStageFine 31 = .ok (.aload 5, 2) := by decide +kernel
theorem dX3_isStageFine_33 : decode cX3_isStageFine 33 = .ok (.getfield 219, 3) := by decide +kernel
theorem dX3_isStageFine_36 : decode cX3_isStageFine 36 = .ok (.iload_n 1, 1) := by decide +kernel
theorem dX3_isStageFine_37 : decode cX3_isStageFine 37 = .ok (.if_icmp .ne 14, 3) := by decide +kernel
theorem dX3_isStageFine_40 : decode cX3_isStageFine 40 = .ok (.aload_n 0, 1) := by decide +kernel
theorem dX3_isStageFine_41 : decode cX3_isStageFine 41 = .ok (.aload 5, 2) := by decide +kernel
theorem dX3_isStageFine_43 : decode cX3_isStageFine 43 = .ok (.invokevirtual 225, 3) := by decide +kernel
theorem dX3_isStageFine_46 : decode cX3_isStageFine 46 = .ok (.ifCond .ne 5, 3) := by decide +kernel
theorem dX3_isStageFine_49 : decode cX3_isStageFine 49 = .ok (.iconst 0, 1) := by decide +kernel
theorem dX3_isStageFine_50 : decode cX3_isStageFine 50 = .ok (.ireturn, 1) := by decide +kernel
theorem dX3_isStageFine_51 : decode cX3_isStageFine 51 = .ok (.iinc 4 1, 3) := by decide +kernel
theorem dX3_isStageFine_54 : decode cX3_isStageFine 54 = .ok (.goto (-43), 3) := by decide +kernel
theorem dX3_isStageFine_57 : decode cX3_isStageFine 57 = .ok (.iconst 1, 1) := by decide +kernel
theorem dX3_isStageFine_58 : decode cX3_isStageFine 58 = .ok (.ireturn, 1) := by decide +kernel
theorem dX3_fitsOnStage_0 : decode cX3_fitsOnStage 0 = .ok (.aload_n 1, 1) := by decide +kernel
theorem dX3_fitsOnStage_1 : decode cX3_fitsOnStage 1 = .ok (.invokevirtual 194, 3) := by decide +kernel
theorem dX3_fitsOnStage_4 : decode cX3_fitsOnStage 4 = .ok (.sipush 1000, 3) := by decide +kernel
theorem dX3_fitsOnStage_7 : decode cX3_fitsOnStage 7 = .ok (.if_icmp .le 5, 3) := by decide +kernel
theorem dX3_fitsOnStage_10 : decode cX3_fitsOnStage 10 = .ok (.iconst 0, 1) := by decide +kernel
theorem dX3_fitsOnStage_11 : decode cX3_fitsOnStage 11 = .ok (.ireturn, 1) := by decide +kernel
theorem dX3_fitsOnStage_12 : decode cX3_fitsOnStage 12 = .ok (.aload_n 0, 1) := by decide +kernel
theorem dX3_fitsOnStage_13 : decode cX3_fitsOnStage 13 = .ok (.getfield 37, 3) := by decide +kernel
theorem dX3_fitsOnStage_16 : decode cX3_fitsOnStage 16 = .ok (.astore_n 2, 1) := by decide +kernel
theorem dX3_fitsOnStage_17 : decode cX3_fitsOnStage 17 = .ok (.aload_n 2, 1) := by decide +kernel
theorem dX3_fitsOnStage_18 : decode cX3_fitsOnStage 18 = .ok (.arraylength, 1) := by decide +kernel
theorem dX3_fitsOnStage_19 : decode cX3_fitsOnStage 19 = .ok (.istore_n 3, 1) := by decide +kernel
theorem dX3_fitsOnStage_20 : decode cX3_fitsOnStage 20 = .ok (.iconst 0, 1) := by decide +kernel
theorem dX3_fitsOnStage_21 : decode cX3_fitsOnStage 21 = .ok (.istore 4, 2) := by decide +kernel
theorem dX3_fitsOnStage_23 : decode cX3_fitsOnStage 23 = .ok (.iload 4, 2) := by decide +kernel
theorem dX3_fitsOnStage_25 : decode cX3_fitsOnStage 25 = .ok (.iload_n 3, 1) := by decide +kernel
theorem dX3_fitsOnStage_26 : decode cX3_fitsOnStage 26 = .ok (.if_icmp .ge 26, 3) := by decide +kernel
theorem dX3_fitsOnStage_29 : decode cX3_fitsOnStage 29 = .ok (.aload_n 2, 1) := by decide +kernel
theorem dX3_fitsOnStage_30 : decode cX3_fitsOnStage 30 = .ok (.iload 4, 2) := by decide +kernel
theorem dX3_fitsOnStage_32 : decode cX3_fitsOnStage 32 = .ok (.aaload, 1) := by decide +kernel
theorem dX3_fitsOnStage_33 : decode cX3_fitsOnStage 33 = .ok (.astore 5, 2) := by decide +kernel
theorem dX3_fitsOnStage_35 : decode cX3_fitsOnStage 35 = .ok (.aload 5, 2) := by decide +kernel
theorem dX3_fitsOnStage_37 : decode cX3_fitsOnStage 37 = .ok (.aload_n 1, 1) := by decide +kernel
theorem dX3_fitsOnStage_38 : decode cX3_fitsOnStage 38 = .ok (.invokevirtual 229, 3) := by decide +kernel
theorem dX3_fitsOnStage_41 : decode cX3_fitsOnStage 41 = .ok (.ifCond .eq 5, 3) := by decide +kernel
theorem dX3_fitsOnStage_44 : decode cX3_fitsOnStage 44 = .ok (.iconst 0, 1) := by decide +kernel
theorem dX3_fitsOnStage_45 : decode cX3_fitsOnStage 45 = .ok (.ireturn, 1) := by decide +kernel
theorem dX3_fitsOnStage_46 : decode cX3_fitsOnStage 46 = .ok (.iinc 4 1, 3) := by decide +kernel
theorem dX3_fitsOnStage_49 : decode cX3_fitsOnStage 49 = .ok (.goto (-26), 3) := by decide +kernel
theorem dX3_fitsOnStage_52 : decode cX3_fitsOnStage 52 = .ok (.aload_n 0, 1) := by decide +kernel
theorem dX3_fitsOnStage_53 : decode cX3_fitsOnStage 53 = .ok (.getfield 13, 3) := by decide +kernel
theorem dX3_fitsOnStage_56 : decode cX3_fitsOnStage 56 = .ok (.aload_n 1, 1) := by decide +kernel
theorem dX3_fitsOnStage_57 : decode cX3_fitsOnStage 57 = .ok (.getfield 219, 3) := by decide +kernel
theorem dX3_fitsOnStage_60 : decode cX3_fitsOnStage 60 = .ok (.iaload, 1) := by decide +kernel
theorem dX3_fitsOnStage_61 : decode cX3_fitsOnStage 61 = .ok (.istore_n 2, 1) := by decide +kernel
theorem dX3_fitsOnStage_62 : decode cX3_fitsOnStage 62 = .ok (.aload_n 0, 1) := by decide +kernel
theorem dX3_fitsOnStage_63 : decode cX3_fitsOnStage 63 = .ok (.getfield 24, 3) := by decide +kernel
theorem dX3_fitsOnStage_66 : decode cX3_fitsOnStage 66 = .ok (.astore_n 3, 1) := by decide +kernel
theorem dX3_fitsOnStage_67 : decode cX3_fitsOnStage 67 = .ok (.aload_n 3, 1) := by decide +kernel
theorem dX3_fitsOnStage_68 : decode cX3_fitsOnStage 68 = .ok (.arraylength, 1) := by decide +kernel
theorem dX3_fitsOnStage_69 : decode cX3_fitsOnStage 69 = .ok (.istore 4, 2) := by decide +kernel
theorem dX3_fitsOnStage_71 : decode cX3_fitsOnStage 71 = .ok (.iconst 0, 1) := by decide +kernel
theorem dX3_fitsOnStage_72 : decode cX3_fitsOnStage 72 = .ok (.istore 5, 2) := by decide +kernel
theorem dX3_fitsOnStage_74 : decode cX3_fitsOnStage 74 = .ok (.iload 5, 2) := by decide +kernel
theorem dX3_fitsOnStage_76 : decode cX3_fitsOnStage 76 = .ok (.iload 4, 2) := by decide +kernel
theorem dX3_fitsOnStage_78 : decode cX3_fitsOnStage 78 = .ok (.if_icmp .ge 53, 3) := by decide +kernel
theorem dX3_fitsOnStage_81 : decode cX3_fitsOnStage 81 = .ok (.aload_n 3, 1) := by decide +kernel
theorem dX3_fitsOnStage_82 : decode cX3_fitsOnStage 82 = .ok (.iload 5, 2) := by decide +kernel
theorem dX3_fitsOnStage_84 : decode cX3_fitsOnStage 84 = .ok (.aaload, 1) := by decide +kernel
theorem dX3_fitsOnStage_85 : decode cX3_fitsOnStage 85 = .ok (.astore 6, 2) := by decide +kernel
theorem dX3_fitsOnStage_87 : decode cX3_fitsOnStage 87 = .ok (.aload 6, 2) := by decide +kernel
theorem dX3_fitsOnStage_89 : decode cX3_fitsOnStage 89 = .ok (.aload_n 1, 1) := by decide +kernel
theorem dX3_fitsOnStage_90 : decode cX3_fitsOnStage 90 = .ok (.if_acmp .eq 35, 3) := by decide +kernel
theorem dX3_fitsOnStage_93 : decode cX3_fitsOnStage 93 = .ok (.aload 6, 2) := by decide +kernel
theorem dX3_fitsOnStage_95 : decode cX3_fitsOnStage 95 = .ok (.getfield 110, 3) := by decide +kernel
theorem dX3_fitsOnStage_98 : decode cX3_fitsOnStage 98 = .ok (.ifCond .eq 27, 3) := by decide +kernel
theorem dX3_fitsOnStage_101 : decode cX3_fitsOnStage 101 = .ok (.aload 6, 2) := by decide +kernel
theorem dX3_fitsOnStage_103 : decode cX3_fitsOnStage 103 = .ok (.getfield 219, 3) := by decide +kernel
theorem dX3_fitsOnStage_106 : decode cX3_fitsOnStage 106 = .ok (.aload_n 1, 1) := by decide +kernel
theorem dX3_fitsOnStage_107 : decode cX3_fitsOnStage 107 = .ok (.getfield 219, 3) := by decide +kernel
theorem dX3_fitsOnStage_110 : decode cX3_fitsOnStage 110 = .ok (.if_icmp .ne 15, 3) := by decide +kernel
theorem dX3_fitsOnStage_113 : decode cX3_fitsOnStage 113 = .ok (.aload_n 1, 1) := by decide +kernel
theorem dX3_fitsOnStage_114 : decode cX3_fitsOnStage 114 = .ok (.aload 6, 2) := by decide +kernel
theorem dX3_fitsOnStage_116 : decode cX3_fitsOnStage 116 = .ok (.iload_n 2, 1) := by decide +kernel
theorem dX3_fitsOnStage_117 : decode cX3_fitsOnStage 117 = .ok (.invokevirtual 232, 3) := by decide +kernel
theorem dX3_fitsOnStage_120 : decode cX3_fitsOnStage 120 = .ok (.ifCond .eq 5, 3) := by decide +kernel
theorem dX3_fitsOnStage_123 : decode cX3_fitsOnStage 123 = .ok (.iconst 0, 1) := by decide +kernel
theorem dX3_fitsOnStage_124 : decode cX3_fitsOnStage 124 = .ok (.ireturn, 1) := by decide +kernel
theorem dX3_fitsOnStage_125 : decode cX3_fitsOnStage 125 = .ok (.iinc 5 1, 3) := by decide +kernel
theorem dX3_fitsOnStage_128 : decode cX3_fitsOnStage 128 = .ok (.goto (-54), 3) := by decide +kernel
theorem dX3_fitsOnStage_131 : decode cX3_fitsOnStage 131 = .ok (.iconst 1, 1) := by decide +kernel
theorem dX3_fitsOnStage_132 : decode cX3_fitsOnStage 132 = .ok (.ireturn, 1) := by decide +kernel
theorem dX3_areStagesFineAt_0 : decode cX3_areStagesFineAt 0 = .ok (.aload_n 0, 1) := by decide +kernel
theorem dX3_areStagesFineAt_1 : decode cX3_areStagesFineAt 1 = .ok (.getfield 24, 3) := by decide +kernel
theorem dX3_areStagesFineAt_4 : decode cX3_areStagesFineAt 4 = .ok (.astore_n 2, 1) := by decide +kernel
theorem dX3_areStagesFineAt_5 : decode cX3_areStagesFineAt 5 = .ok (.aload_n 2, 1) := by decide +kernel
theorem dX3_areStagesFineAt_6 : decode cX3_areStagesFineAt 6 = .ok (.arraylength, 1) := by decide +kernel
theorem dX3_areStagesFineAt_7 : decode cX3_areStagesFineAt 7 = .ok (.istore_n 3, 1) := by decide +kernel
theorem dX3_areStagesFineAt_8 : decode cX3_areStagesFineAt 8 = .ok (.iconst 0, 1) := by decide +kernel
theorem dX3_areStagesFineAt_9 : decode cX3_areStagesFineAt 9 = .ok (.istore 4, 2) := by decide +kernel
theorem dX3_areStagesFineAt_11 : decode cX3_areStagesFineAt 11 = .ok (.iload 4, 2) := by decide +kernel
theorem dX3_areStagesFineAt_13 : decode cX3_areStagesFineAt 13 = .ok (.iload_n 3, 1) := by decide +kernel
theorem dX3_areStagesFineAt_14 : decode cX3_areStagesFineAt 14 = .ok (.if_icmp .ge 49, 3) := by decide +kernel
theorem dX3_areStagesFineAt_17 : decode cX3_areStagesFineAt 17 = .ok (.aload_n 2, 1) := by decide +kernel
theorem dX3_areStagesFineAt_18 : decode cX3_areStagesFineAt 18 = .ok (.iload 4, 2) := by decide +kernel
theorem dX3_areStagesFineAt_20 : decode cX3_areStagesFineAt 20 = .ok (.aaload, 1) := by decide +kernel
theorem dX3_areStagesFineAt_21 : decode cX3_areStagesFineAt 21 = .ok (.astore 5, 2) := by decide +kernel
theorem dX3_areStagesFineAt_23 : decode cX3_areStagesFineAt 23 = .ok (.aload 5, 2) := by decide +kernel
theorem dX3_areStagesFineAt_25 : decode cX3_areStagesFineAt 25 = .ok (.iload_n 1, 1) := by decide +kernel
theorem dX3_areStagesFineAt_26 : decode cX3_areStagesFineAt 26 = .ok (.invokevirtual 236, 3) := by decide +kernel
theorem dX3_areStagesFineAt_29 : decode cX3_areStagesFineAt 29 = .ok (.ifCond .eq 28, 3) := by decide +kernel
theorem dX3_areStagesFineAt_32 : decode cX3_areStagesFineAt 32 = .ok (.aload_n 0, 1) := by decide +kernel
theorem dX3_areStagesFineAt_33 : decode cX3_areStagesFineAt 33 = .ok (.aload 5, 2) := by decide +kernel
theorem dX3_areStagesFineAt_35 : decode cX3_areStagesFineAt 35 = .ok (.getfield 219, 3) := by decide +kernel
theorem dX3_areStagesFineAt_38 : decode cX3_areStagesFineAt 38 = .ok (.iload_n 1, 1) := by decide +kernel
theorem dX3_areStagesFineAt_39 : decode cX3_areStagesFineAt 39 = .ok (.invokevirtual 239, 3) := by decide +kernel
theorem dX3_areStagesFineAt_42 : decode cX3_areStagesFineAt 42 = .ok (.ifCond .ne 13, 3) := by decide +kernel
theorem dX3_areStagesFineAt_45 : decode cX3_areStagesFineAt 45 = .ok (.aload_n 0, 1) := by decide +kernel
theorem dX3_areStagesFineAt_46 : decode cX3_areStagesFineAt 46 = .ok (.aload 5, 2) := by decide +kernel
theorem dX3_areStagesFineAt_48 : decode cX3_areStagesFineAt 48 = .ok (.iload_n 1, 1) := by decide +kernel
theorem dX3_areStagesFineAt_49 : decode cX3_areStagesFineAt 49 = .ok (.invokevirtual 243, 3) := by decide +kernel
theorem dX3_areStagesFineAt_52 : decode cX3_areStagesFineAt 52 = .ok (.ifCond .eq 5, 3) := by decide +kernel
theorem dX3_areStagesFineAt_55 : decode cX3_areStagesFineAt 55 = .ok (.iconst 0, 1) := by decide +kernel
theorem dX3_areStagesFineAt_56 : decode cX3_areStagesFineAt 56 = .ok (.ireturn, 1) := by decide +kernel
theorem dX3_areStagesFineAt_57 : decode cX3_areStagesFineAt 57 = .ok (.iinc 4 1, 3) := by decide +kernel
theorem dX3_areStagesFineAt_60 : decode cX3_areStagesFineAt 60 = .ok (.goto (-49), 3) := by decide +kernel
theorem dX3_areStagesFineAt_63 : decode cX3_areStagesFineAt 63 = .ok (.iconst 1, 1) := by decide +kernel
theorem dX3_areStagesFineAt_64 : decode cX3_areStagesFineAt 64 = .ok (.ireturn, 1) := by decide +kernel
theorem dX3_isStormyAt_0 : decode cX3_isStormyAt 0 = .ok (.aload_n 0, 1) := by decide +kernel
theorem dX3_isStormyAt_1 : decode cX3_isStormyAt 1 = .ok (.getfield 37, 3) := by decide +kernel
theorem dX3_isStormyAt_4 : decode cX3_isStormyAt 4 = .ok (.astore_n 3, 1) := by decide +kernel
theorem dX3_isStormyAt_5 : decode cX3_isStormyAt 5 = .ok (.aload_n 3, 1) := by decide +kernel
theorem dX3_isStormyAt_6 : decode cX3_isStormyAt 6 = .ok (.arraylength, 1) := by decide +kernel
theorem dX3_isStormyAt_7 : decode cX3_isStormyAt 7 = .ok (.istore 4, 2) := by decide +kernel
theorem dX3_isStormyAt_9 : decode cX3_isStormyAt 9 = .ok (.iconst 0, 1) := by decide +kernel
theorem dX3_isStormyAt_10 : decode cX3_isStormyAt 10 = .ok (.istore 5, 2) := by decide +kernel
theorem dX3_isStormyAt_12 : decode cX3_isStormyAt 12 = .ok (.iload 5, 2) := by decide +kernel
theorem dX3_isStormyAt_14 : decode cX3_isStormyAt 14 = .ok (.iload 4, 2) := by decide +kernel
theorem dX3_isStormyAt_16 : decode cX3_isStormyAt 16 = .ok (.if_icmp .ge 44, 3) := by decide +kernel
theorem dX3_isStormyAt_19 : decode cX3_isStormyAt 19 = .ok (.aload_n 3, 1) := by decide +kernel
theorem dX3_isStormyAt_20 : decode cX3_isStormyAt 20 = .ok (.iload 5, 2) := by decide +kernel
theorem dX3_isStormyAt_22 : decode cX3_isStormyAt 22 = .ok (.aaload, 1) := by decide +kernel
theorem dX3_isStormyAt_23 : decode cX3_isStormyAt 23 = .ok (.astore 6, 2) := by decide +kernel
theorem dX3_isStormyAt_25 : decode cX3_isStormyAt 25 = .ok (.aload 6, 2) := by decide +kernel
theorem dX3_isStormyAt_27 : decode cX3_isStormyAt 27 = .ok (.getfield 169, 3) := by decide +kernel
theorem dX3_isStormyAt_30 : decode cX3_isStormyAt 30 = .ok (.iload_n 1, 1) := by decide +kernel
theorem dX3_isStormyAt_31 : decode cX3_isStormyAt 31 = .ok (.if_icmp .ne 23, 3) := by decide +kernel
theorem dX3_isStormyAt_34 : decode cX3_isStormyAt 34 = .ok (.iload_n 2, 1) := by decide +kernel
theorem dX3_isStormyAt_35 : decode cX3_isStormyAt 35 = .ok (.aload 6, 2) := by decide +kernel
theorem dX3_isStormyAt_37 : decode cX3_isStormyAt 37 = .ok (.getfield 172, 3) := by decide +kernel
theorem dX3_isStormyAt_40 : decode cX3_isStormyAt 40 = .ok (.if_icmp .lt 14, 3) := by decide +kernel
theorem dX3_isStormyAt_43 : decode cX3_isStormyAt 43 = .ok (.iload_n 2, 1) := by decide +kernel
theorem dX3_isStormyAt_44 : decode cX3_isStormyAt 44 = .ok (.aload 6, 2) := by decide +kernel
theorem dX3_isStormyAt_46 : decode cX3_isStormyAt 46 = .ok (.getfield 175, 3) := by decide +kernel
theorem dX3_isStormyAt_49 : decode cX3_isStormyAt 49 = .ok (.if_icmp .ge 5, 3) := by decide +kernel
theorem dX3_isStormyAt_52 : decode cX3_isStormyAt 52 = .ok (.iconst 1, 1) := by decide +kernel
theorem dX3_isStormyAt_53 : decode cX3_isStormyAt 53 = .ok (.ireturn, 1) := by decide +kernel
theorem dX3_isStormyAt_54 : decode cX3_isStormyAt 54 = .ok (.iinc 5 1, 3) := by decide +kernel
theorem dX3_isStormyAt_57 : decode cX3_isStormyAt 57 = .ok (.goto (-45), 3) := by decide +kernel
theorem dX3_isStormyAt_60 : decode cX3_isStormyAt 60 = .ok (.iconst 0, 1) := by decide +kernel
theorem dX3_isStormyAt_61 : decode cX3_isStormyAt 61 = .ok (.ireturn, 1) := by decide +kernel
theorem dX3_isHeldByAnother_0 : decode cX3_isHeldByAnother 0 = .ok (.aload_n 0, 1) := by decide +kernel
theorem dX3_isHeldByAnother_1 : decode cX3_isHeldByAnother 1 = .ok (.getfield 13, 3) := by decide +kernel
theorem dX3_isHeldByAnother_4 : decode cX3_isHeldByAnother 4 = .ok (.aload_n 1, 1) := by decide +kernel
theorem dX3_isHeldByAnother_5 : decode cX3_isHeldByAnother 5 = .ok (.getfield 219, 3) := by decide +kernel
theorem dX3_isHeldByAnother_8 : decode cX3_isHeldByAnother 8 = .ok (.iaload, 1) := by decide +kernel
theorem dX3_isHeldByAnother_9 : decode cX3_isHeldByAnother 9 = .ok (.istore_n 3, 1) := by decide +kernel
theorem dX3_isHeldByAnother_10 : decode cX3_isHeldByAnother 10 = .ok (.aload_n 0, 1) := by decide +kernel
theorem dX3_isHeldByAnother_11 : decode cX3_isHeldByAnother 11 = .ok (.getfield 24, 3) := by decide +kernel
theorem dX3_isHeldByAnother_14 : decode cX3_isHeldByAnother 14 = .ok (.astore 4, 2) := by decide +kernel
theorem dX3_isHeldByAnother_16 : decode cX3_isHeldByAnother 16 = .ok (.aload 4, 2) := by decide +kernel
theorem dX3_isHeldByAnother_18 : decode cX3_isHeldByAnother 18 = .ok (.arraylength, 1) := by decide +kernel
theorem dX3_isHeldByAnother_19 : decode cX3_isHeldByAnother 19 = .ok (.istore 5, 2) := by decide +kernel
theorem dX3_isHeldByAnother_21 : decode cX3_isHeldByAnother 21 = .ok (.iconst 0, 1) := by decide +kernel
theorem dX3_isHeldByAnother_22 : decode cX3_isHeldByAnother 22 = .ok (.istore 6, 2) := by decide +kernel
theorem dX3_isHeldByAnother_24 : decode cX3_isHeldByAnother 24 = .ok (.iload 6, 2) := by decide +kernel
theorem dX3_isHeldByAnother_26 : decode cX3_isHeldByAnother 26 = .ok (.iload 5, 2) := by decide +kernel
theorem dX3_isHeldByAnother_28 : decode cX3_isHeldByAnother 28 = .ok (.if_icmp .ge 64, 3) := by decide +kernel
theorem dX3_isHeldByAnother_31 : decode cX3_isHeldByAnother 31 = .ok (.aload 4, 2) := by decide +kernel
theorem dX3_isHeldByAnother_33 : decode cX3_isHeldByAnother 33 = .ok (.iload 6, 2) := by decide +kernel
theorem dX3_isHeldByAnother_35 : decode cX3_isHeldByAnother 35 = .ok (.aaload, 1) := by decide +kernel
theorem dX3_isHeldByAnother_36 : decode cX3_isHeldByAnother 36 = .ok (.astore 7, 2) := by decide +kernel
theorem dX3_isHeldByAnother_38 : decode cX3_isHeldByAnother 38 = .ok (.aload 7, 2) := by decide +kernel
theorem dX3_isHeldByAnother_40 : decode cX3_isHeldByAnother 40 = .ok (.aload_n 1, 1) := by decide +kernel
theorem dX3_isHeldByAnother_41 : decode cX3_isHeldByAnother 41 = .ok (.if_acmp .eq 45, 3) := by decide +kernel
theorem dX3_isHeldByAnother_44 : decode cX3_isHeldByAnother 44 = .ok (.aload 7, 2) := by decide +kernel
theorem dX3_isHeldByAnother_46 : decode cX3_isHeldByAnother 46 = .ok (.getfield 110, 3) := by decide +kernel
theorem dX3_isHeldByAnother_49 : decode cX3_isHeldByAnother 49 = .ok (.ifCond .eq 37, 3) := by decide +kernel
theorem dX3_isHeldByAnother_52 : decode cX3_isHeldByAnother 52 = .ok (.aload 7, 2) := by decide +kernel
theorem dX3_isHeldByAnother_54 : decode cX3_isHeldByAnother 54 = .ok (.getfield 219, 3) := by decide +kernel
theorem dX3_isHeldByAnother_57 : decode cX3_isHeldByAnother 57 = .ok (.aload_n 1, 1) := by decide +kernel
theorem dX3_isHeldByAnother_58 : decode cX3_isHeldByAnother 58 = .ok (.getfield 219, 3) := by decide +kernel
theorem dX3_isHeldByAnother_61 : decode cX3_isHeldByAnother 61 = .ok (.if_icmp .ne 25, 3) := by decide +kernel
theorem dX3_isHeldByAnother_64 : decode cX3_isHeldByAnother 64 = .ok (.iload_n 2, 1) := by decide +kernel
theorem dX3_isHeldByAnother_65 : decode cX3_isHeldByAnother 65 = .ok (.aload 7, 2) := by decide +kernel
theorem dX3_isHeldByAnother_67 : decode cX3_isHeldByAnother 67 = .ok (.getfield 123, 3) := by decide +kernel
theorem dX3_isHeldByAnother_70 : decode cX3_isHeldByAnother 70 = .ok (.if_icmp .lt 16, 3) := by decide +kernel
theorem dX3_isHeldByAnother_73 : decode cX3_isHeldByAnother 73 = .ok (.iload_n 2, 1) := by decide +kernel
theorem dX3_isHeldByAnother_74 : decode cX3_isHeldByAnother 74 = .ok (.aload 7, 2) := by decide +kernel
theorem dX3_isHeldByAnother_76 : decode cX3_isHeldByAnother 76 = .ok (.invokevirtual 194, 3) := by decide +kernel
theorem dX3_isHeldByAnother_79 : decode cX3_isHeldByAnother 79 = .ok (.iload_n 3, 1) := by decide +kernel
theorem dX3_isHeldByAnother_80 : decode cX3_isHeldByAnother 80 = .ok (.iadd, 1) := by decide +kernel
theorem dX3_isHeldByAnother_81 : decode cX3_isHeldByAnother 81 = .ok (.if_icmp .ge 5, 3) := by decide +kernel
theorem dX3_isHeldByAnother_84 : decode cX3_isHeldByAnother 84 = .ok (.iconst 1, 1) := by decide +kernel
theorem dX3_isHeldByAnother_85 : decode cX3_isHeldByAnother 85 = .ok (.ireturn, 1) := by decide +kernel
theorem dX3_isHeldByAnother_86 : decode cX3_isHeldByAnother 86 = .ok (.iinc 6 1, 3) := by decide +kernel
theorem dX3_isHeldByAnother_89 : decode cX3_isHeldByAnother 89 = .ok (.goto (-65), 3) := by decide +kernel
theorem dX3_isHeldByAnother_92 : decode cX3_isHeldByAnother 92 = .ok (.iconst 0, 1) := by decide +kernel
theorem dX3_isHeldByAnother_93 : decode cX3_isHeldByAnother 93 = .ok (.ireturn, 1) := by decide +kernel
theorem dX3_brokenBy_0 : decode cX3_brokenBy 0 = .ok (.aload_n 0, 1) := by decide +kernel
theorem dX3_brokenBy_1 : decode cX3_brokenBy 1 = .ok (.aload_n 1, 1) := by decide +kernel
theorem dX3_brokenBy_2 : decode cX3_brokenBy 2 = .ok (.invokevirtual 225, 3) := by decide +kernel
theorem dX3_brokenBy_5 : decode cX3_brokenBy 5 = .ok (.ifCond .ne 5, 3) := by decide +kernel
theorem dX3_brokenBy_8 : decode cX3_brokenBy 8 = .ok (.iconst 1, 1) := by decide +kernel
theorem dX3_brokenBy_9 : decode cX3_brokenBy 9 = .ok (.ireturn, 1) := by decide +kernel
theorem dX3_brokenBy_10 : decode cX3_brokenBy 10 = .ok (.aload_n 0, 1) := by decide +kernel
theorem dX3_brokenBy_11 : decode cX3_brokenBy 11 = .ok (.aload_n 1, 1) := by decide +kernel
theorem dX3_brokenBy_12 : decode cX3_brokenBy 12 = .ok (.getfield 123, 3) := by decide +kernel
theorem dX3_brokenBy_15 : decode cX3_brokenBy 15 = .ok (.aload_n 1, 1) := by decide +kernel
theorem dX3_brokenBy_16 : decode cX3_brokenBy 16 = .ok (.invokevirtual 194, 3) := by decide +kernel
theorem dX3_brokenBy_19 : decode cX3_brokenBy 19 = .ok (.invokevirtual 90, 3) := by decide +kernel
theorem dX3_brokenBy_22 : decode cX3_brokenBy 22 = .ok (.ireturn, 1) := by decide +kernel
theorem dX3_brokenWithin_0 : decode cX3_brokenWithin 0 = .ok (.iconst 0, 1) := by decide +kernel
theorem dX3_brokenWithin_1 : decode cX3_brokenWithin 1 = .ok (.istore_n 3, 1) := by decide +kernel
theorem dX3_brokenWithin_2 : decode cX3_brokenWithin 2 = .ok (.iload_n 1, 1) := by decide +kernel
theorem dX3_brokenWithin_3 : decode cX3_brokenWithin 3 = .ok (.istore 4, 2) := by decide +kernel
theorem dX3_brokenWithin_5 : decode cX3_brokenWithin 5 = .ok (.iload 4, 2) := by decide +kernel
theorem dX3_brokenWithin_7 : decode cX3_brokenWithin 7 = .ok (.iload_n 2, 1) := by decide +kernel
theorem dX3_brokenWithin_8 : decode cX3_brokenWithin 8 = .ok (.if_icmp .ge 43, 3) := by decide +kernel
theorem dX3_brokenWithin_11 : decode cX3_brokenWithin 11 = .ok (.aload_n 0, 1) := by decide +kernel
theorem dX3_brokenWithin_12 : decode cX3_brokenWithin 12 = .ok (.iload 4, 2) := by decide +kernel
theorem dX3_brokenWithin_14 : decode cX3_brokenWithin 14 = .ok (.invokevirtual 199, 3) := by decide +kernel
theorem dX3_brokenWithin_17 : decode cX3_brokenWithin 17 = .ok (.istore 5, 2) := by decide +kernel
theorem dX3_brokenWithin_19 : decode cX3_brokenWithin 19 = .ok (.iload 5, 2) := by decide +kernel
theorem dX3_brokenWithin_21 : decode cX3_brokenWithin 21 = .ok (.iconst 2, 1) := by decide +kernel
theorem dX3_brokenWithin_22 : decode cX3_brokenWithin 22 = .ok (.if_icmp .ne 5, 3) := by decide +kernel
theorem dX3_brokenWithin_25 : decode cX3_brokenWithin 25 = .ok (.iconst 2, 1) := by decide +kernel
theorem dX3_brokenWithin_26 : decode cX3_brokenWithin 26 = .ok (.ireturn, 1) := by decide +kernel
theorem dX3_brokenWithin_27 : decode cX3_brokenWithin 27 = .ok (.iload 5, 2) := by decide +kernel
theorem dX3_brokenWithin_29 : decode cX3_brokenWithin 29 = .ok (.ifCond .eq 16, 3) := by decide +kernel
theorem dX3_brokenWithin_32 : decode cX3_brokenWithin 32 = .ok (.iload_n 3, 1) := by decide +kernel
theorem dX3_brokenWithin_33 : decode cX3_brokenWithin 33 = .ok (.ifCond .eq 9, 3) := by decide +kernel
theorem dX3_brokenWithin_36 : decode cX3_brokenWithin 36 = .ok (.iload 5, 2) := by decide +kernel
theorem dX3_brokenWithin_38 : decode cX3_brokenWithin 38 = .ok (.iload_n 3, 1) := by decide +kernel
theorem dX3_brokenWithin_39 : decode cX3_brokenWithin 39 = .ok (.if_icmp .ge 6, 3) := by decide +kernel
theorem dX3_brokenWithin_42 : decode cX3_brokenWithin 42 = .ok (.iload 5, 2) := by decide +kernel
theorem dX3_brokenWithin_44 : decode cX3_brokenWithin 44 = .ok (.istore_n 3, 1) := by decide +kernel
theorem dX3_brokenWithin_45 : decode cX3_brokenWithin 45 = .ok (.iinc 4 1, 3) := by decide +kernel
theorem dX3_brokenWithin_48 : decode cX3_brokenWithin 48 = .ok (.goto (-43), 3) := by decide +kernel
theorem dX3_brokenWithin_51 : decode cX3_brokenWithin 51 = .ok (.iload_n 3, 1) := by decide +kernel
theorem dX3_brokenWithin_52 : decode cX3_brokenWithin 52 = .ok (.ireturn, 1) := by decide +kernel
theorem dX3_brokenAt_0 : decode cX3_brokenAt 0 = .ok (.aload_n 0, 1) := by decide +kernel
theorem dX3_brokenAt_1 : decode cX3_brokenAt 1 = .ok (.iload_n 1, 1) := by decide +kernel
theorem dX3_brokenAt_2 : decode cX3_brokenAt 2 = .ok (.invokevirtual 188, 3) := by decide +kernel
theorem dX3_brokenAt_5 : decode cX3_brokenAt 5 = .ok (.bipush 100, 2) := by decide +kernel
theorem dX3_brokenAt_7 : decode cX3_brokenAt 7 = .ok (.aload_n 0, 1) := by decide +kernel
theorem dX3_brokenAt_8 : decode cX3_brokenAt 8 = .ok (.iload_n 1, 1) := by decide +kernel
theorem dX3_brokenAt_9 : decode cX3_brokenAt 9 = .ok (.invokevirtual 246, 3) := by decide +kernel
theorem dX3_brokenAt_12 : decode cX3_brokenAt 12 = .ok (.imul, 1) := by decide +kernel
theorem dX3_brokenAt_13 : decode cX3_brokenAt 13 = .ok (.istore_n 2, 1) := by decide +kernel
theorem dX3_brokenAt_14 : decode cX3_brokenAt 14 = .ok (.aload_n 0, 1) := by decide +kernel
theorem dX3_brokenAt_15 : decode cX3_brokenAt 15 = .ok (.getfield 41, 3) := by decide +kernel
theorem dX3_brokenAt_18 : decode cX3_brokenAt 18 = .ok (.astore_n 3, 1) := by decide +kernel
theorem dX3_brokenAt_19 : decode cX3_brokenAt 19 = .ok (.aload_n 3, 1) := by decide +kernel
theorem dX3_brokenAt_20 : decode cX3_brokenAt 20 = .ok (.arraylength, 1) := by decide +kernel
theorem dX3_brokenAt_21 : decode cX3_brokenAt 21 = .ok (.istore 4, 2) := by decide +kernel
theorem dX3_brokenAt_23 : decode cX3_brokenAt 23 = .ok (.iconst 0, 1) := by decide +kernel
theorem dX3_brokenAt_24 : decode cX3_brokenAt 24 = .ok (.istore 5, 2) := by decide +kernel
theorem dX3_brokenAt_26 : decode cX3_brokenAt 26 = .ok (.iload 5, 2) := by decide +kernel
theorem dX3_brokenAt_28 : decode cX3_brokenAt 28 = .ok (.iload 4, 2) := by decide +kernel
theorem dX3_brokenAt_30 : decode cX3_brokenAt 30 = .ok (.if_icmp .ge 23, 3) := by decide +kernel
theorem dX3_brokenAt_33 : decode cX3_brokenAt 33 = .ok (.aload_n 3, 1) := by decide +kernel
theorem dX3_brokenAt_34 : decode cX3_brokenAt 34 = .ok (.iload 5, 2) := by decide +kernel
theorem dX3_brokenAt_36 : decode cX3_brokenAt 36 = .ok (.iaload, 1) := by decide +kernel
theorem dX3_brokenAt_37 : decode cX3_brokenAt 37 = .ok (.istore 6, 2) := by decide +kernel
theorem dX3_brokenAt_39 : decode cX3_brokenAt 39 = .ok (.iload 6, 2) := by decide +kernel
theorem dX3_brokenAt_41 : decode cX3_brokenAt 41 = .ok (.iload_n 2, 1) := by decide +kernel
theorem dX3_brokenAt_42 : decode cX3_brokenAt 42 = .ok (.if_icmp .le 5, 3) := by decide +kernel
theorem dX3_brokenAt_45 : decode cX3_brokenAt 45 = .ok (.iconst 2, 1) := by decide +kernel
theorem dX3_brokenAt_46 : decode cX3_brokenAt 46 = .ok (.ireturn, 1) := by decide +kernel
theorem dX3_brokenAt_47 : decode cX3_brokenAt 47 = .ok (.iinc 5 1, 3) := by decide +kernel
theorem dX3_brokenAt_50 : decode cX3_brokenAt 50 = .ok (.goto (-24), 3) := by decide +kernel
theorem dX3_brokenAt_53 : decode cX3_brokenAt 53 = .ok (.aload_n 0, 1) := by decide +kernel
theorem dX3_brokenAt_54 : decode cX3_brokenAt 54 = .ok (.getfield 249, 3) := by decide +kernel
theorem dX3_brokenAt_57 : decode cX3_brokenAt 57 = .ok (.ifCond .ne 13, 3) := by decide +kernel
theorem dX3_brokenAt_60 : decode cX3_brokenAt 60 = .ok (.aload_n 0, 1) := by decide +kernel
theorem dX3_brokenAt_61 : decode cX3_brokenAt 61 = .ok (.getfield 191, 3) := by decide +kernel
theorem dX3_brokenAt_64 : decode cX3_brokenAt 64 = .ok (.invokestatic 252, 3) := by decide +kernel
theorem dX3_brokenAt_67 : decode cX3_brokenAt 67 = .ok (.ifCond .eq 5, 3) := by decide +kernel
theorem dX3_brokenAt_70 : decode cX3_brokenAt 70 = .ok (.iconst 3, 1) := by decide +kernel
theorem dX3_brokenAt_71 : decode cX3_brokenAt 71 = .ok (.ireturn, 1) := by decide +kernel
theorem dX3_brokenAt_72 : decode cX3_brokenAt 72 = .ok (.iload_n 1, 1) := by decide +kernel
theorem dX3_brokenAt_73 : decode cX3_brokenAt 73 = .ok (.sipush 600, 3) := by decide +kernel
theorem dX3_brokenAt_76 : decode cX3_brokenAt 76 = .ok (.if_icmp .lt 8, 3) := by decide +kernel
theorem dX3_brokenAt_79 : decode cX3_brokenAt 79 = .ok (.bipush 10, 2) := by decide +kernel
theorem dX3_brokenAt_81 : decode cX3_brokenAt 81 = .ok (.goto 4, 3) := by decide +kernel
theorem dX3_brokenAt_84 : decode cX3_brokenAt 84 = .ok (.iconst 0, 1) := by decide +kernel
theorem dX3_brokenAt_85 : decode cX3_brokenAt 85 = .ok (.istore_n 3, 1) := by decide +kernel
theorem dX3_brokenAt_86 : decode cX3_brokenAt 86 = .ok (.iconst 0, 1) := by decide +kernel
theorem dX3_brokenAt_87 : decode cX3_brokenAt 87 = .ok (.istore 4, 2) := by decide +kernel
theorem dX3_brokenAt_89 : decode cX3_brokenAt 89 = .ok (.iload 4, 2) := by decide +kernel
theorem dX3_brokenAt_91 : decode cX3_brokenAt 91 = .ok (.iconst 3, 1) := by decide +kernel
theorem dX3_brokenAt_92 : decode cX3_brokenAt 92 = .ok (.if_icmp .ge 30, 3) := by decide +kernel
theorem dX3_brokenAt_95 : decode cX3_brokenAt 95 = .ok (.aload_n 0, 1) := by decide +kernel
theorem dX3_brokenAt_96 : decode cX3_brokenAt 96 = .ok (.getfield 44, 3) := by decide +kernel
theorem dX3_brokenAt_99 : decode cX3_brokenAt 99 = .ok (.iload 4, 2) := by decide +kernel
theorem dX3_brokenAt_101 : decode cX3_brokenAt 101 = .ok (.iaload, 1) := by decide +kernel
theorem dX3_brokenAt_102 : decode cX3_brokenAt 102 = .ok (.aload_n 0, 1) := by decide +kernel
theorem dX3_brokenAt_103 : decode cX3_brokenAt 103 = .ok (.getfield 16, 3) := by decide +kernel
theorem dX3_brokenAt_106 : decode cX3_brokenAt 106 = .ok (.iload 4, 2) := by decide +kernel
theorem dX3_brokenAt_108 : decode cX3_brokenAt 108 = .ok (.iaload, 1) := by decide +kernel
theorem dX3_brokenAt_109 : decode cX3_brokenAt 109 = .ok (.iload_n 3, 1) := by decide +kernel
theorem dX3_brokenAt_110 : decode cX3_brokenAt 110 = .ok (.isub, 1) := by decide +kernel
theorem dX3_brokenAt_111 : decode cX3_brokenAt 111 = .ok (.if_icmp .le 5, 3) := by decide +kernel
theorem dX3_brokenAt_114 : decode cX3_brokenAt 114 = .ok (.iconst 4, 1) := by decide +kernel
theorem dX3_brokenAt_115 : decode cX3_brokenAt 115 = .ok (.ireturn, 1) := by decide +kernel
theorem dX3_brokenAt_116 : decode cX3_brokenAt 116 = .ok (.iinc 4 1, 3) := by decide +kernel
theorem dX3_brokenAt_119 : decode cX3_brokenAt 119 = .ok (.goto (-30), 3) := by decide +kernel
theorem dX3_brokenAt_122 : decode cX3_brokenAt 122 = .ok (.iconst 0, 1) := by decide +kernel
theorem dX3_brokenAt_123 : decode cX3_brokenAt 123 = .ok (.ireturn, 1) := by decide +kernel
theorem dX3_setsAt_0 : decode cX3_setsAt 0 = .ok (.iconst 0, 1) := by decide +kernel
theorem dX3_setsAt_1 : decode cX3_setsAt 1 = .ok (.istore_n 2, 1) := by decide +kernel
theorem dX3_setsAt_2 : decode cX3_setsAt 2 = .ok (.iconst 0, 1) := by decide +kernel
theorem dX3_setsAt_3 : decode cX3_setsAt 3 = .ok (.istore_n 3, 1) := by decide +kernel
theorem dX3_setsAt_4 : decode cX3_setsAt 4 = .ok (.iload_n 3, 1) := by decide +kernel
theorem dX3_setsAt_5 : decode cX3_setsAt 5 = .ok (.aload_n 0, 1) := by decide +kernel
theorem dX3_setsAt_6 : decode cX3_setsAt 6 = .ok (.getfield 59, 3) := by decide +kernel
theorem dX3_setsAt_9 : decode cX3_setsAt 9 = .ok (.if_icmp .ge 22, 3) := by decide +kernel
theorem dX3_setsAt_12 : decode cX3_setsAt 12 = .ok (.aload_n 0, 1) := by decide +kernel
theorem dX3_setsAt_13 : decode cX3_setsAt 13 = .ok (.getfield 9, 3) := by decide +kernel
theorem dX3_setsAt_16 : decode cX3_setsAt 16 = .ok (.iload_n 3, 1) := by decide +kernel
theorem dX3_setsAt_17 : decode cX3_setsAt 17 = .ok (.iaload, 1) := by decide +kernel
theorem dX3_setsAt_18 : decode cX3_setsAt 18 = .ok (.iload_n 1, 1) := by decide +kernel
theorem dX3_setsAt_19 : decode cX3_setsAt 19 = .ok (.if_icmp .gt 6, 3) := by decide +kernel
theorem dX3_setsAt_22 : decode cX3_setsAt 22 = .ok (.iinc 2 1, 3) := by decide +kernel
theorem dX3_setsAt_25 : decode cX3_setsAt 25 = .ok (.iinc 3 1, 3) := by decide +kernel
theorem dX3_setsAt_28 : decode cX3_setsAt 28 = .ok (.goto (-24), 3) := by decide +kernel
theorem dX3_setsAt_31 : decode cX3_setsAt 31 = .ok (.iload_n 2, 1) := by decide +kernel
theorem dX3_setsAt_32 : decode cX3_setsAt 32 = .ok (.ireturn, 1) := by decide +kernel
theorem dX3_hasMiddleChannel_0 : decode cX3_hasMiddleChannel 0 = .ok (.iload_n 0, 1) := by decide +kernel
theorem dX3_hasMiddleChannel_1 : decode cX3_hasMiddleChannel 1 = .ok (.invokestatic 255, 3) := by decide +kernel
theorem dX3_hasMiddleChannel_4 : decode cX3_hasMiddleChannel 4 = .ok (.iconst 3, 1) := by decide +kernel
theorem dX3_hasMiddleChannel_5 : decode cX3_hasMiddleChannel 5 = .ok (.if_icmp .ge 5, 3) := by decide +kernel
theorem dX3_hasMiddleChannel_8 : decode cX3_hasMiddleChannel 8 = .ok (.iconst 0, 1) := by decide +kernel
theorem dX3_hasMiddleChannel_9 : decode cX3_hasMiddleChannel 9 = .ok (.ireturn, 1) := by decide +kernel
theorem dX3_hasMiddleChannel_10 : decode cX3_hasMiddleChannel 10 = .ok (.iconst 1, 1) := by decide +kernel
theorem dX3_hasMiddleChannel_11 : decode cX3_hasMiddleChannel 11 = .ok (.istore_n 1, 1) := by decide +kernel
theorem dX3_hasMiddleChannel_12 : decode cX3_hasMiddleChannel 12 = .ok (.iload_n 1, 1) := by decide +kernel
theorem dX3_hasMiddleChannel_13 : decode cX3_hasMiddleChannel 13 = .ok (.bipush 31, 2) := by decide +kernel
theorem dX3_hasMiddleChannel_15 : decode cX3_hasMiddleChannel 15 = .ok (.if_icmp .ge 27, 3) := by decide +kernel
theorem dX3_hasMiddleChannel_18 : decode cX3_hasMiddleChannel 18 = .ok (.iload_n 0, 1) := by decide +kernel
theorem dX3_hasMiddleChannel_19 : decode cX3_hasMiddleChannel 19 = .ok (.iload_n 1, 1) := by decide +kernel
theorem dX3_hasMiddleChannel_20 : decode cX3_hasMiddleChannel 20 = .ok (.invokestatic 260, 3) := by decide +kernel
theorem dX3_hasMiddleChannel_23 : decode cX3_hasMiddleChannel 23 = .ok (.ifCond .eq 13, 3) := by decide +kernel
theorem dX3_hasMiddleChannel_26 : decode cX3_hasMiddleChannel 26 = .ok (.iload_n 0, 1) := by decide +kernel
theorem dX3_hasMiddleChannel_27 : decode cX3_hasMiddleChannel 27 = .ok (.iload_n 1, 1) := by decide +kernel
theorem dX3_hasMiddleChannel_28 : decode cX3_hasMiddleChannel 28 = .ok (.invokestatic 263, 3) := by decide +kernel
theorem dX3_hasMiddleChannel_31 : decode cX3_hasMiddleChannel 31 = .ok (.ifCond .eq 5, 3) := by decide +kernel
theorem dX3_hasMiddleChannel_34 : decode cX3_hasMiddleChannel 34 = .ok (.iconst 1, 1) := by decide +kernel
theorem dX3_hasMiddleChannel_35 : decode cX3_hasMiddleChannel 35 = .ok (.ireturn, 1) := by decide +kernel
theorem dX3_hasMiddleChannel_36 : decode cX3_hasMiddleChannel 36 = .ok (.iinc 1 1, 3) := by decide +kernel
theorem dX3_hasMiddleChannel_39 : decode cX3_hasMiddleChannel 39 = .ok (.goto (-27), 3) := by decide +kernel
theorem dX3_hasMiddleChannel_42 : decode cX3_hasMiddleChannel 42 = .ok (.iconst 0, 1) := by decide +kernel
theorem dX3_hasMiddleChannel_43 : decode cX3_hasMiddleChannel 43 = .ok (.ireturn, 1) := by decide +kernel
theorem dX3_hasPairAround_0 : decode cX3_hasPairAround 0 = .ok (.iconst 1, 1) := by decide +kernel
theorem dX3_hasPairAround_1 : decode cX3_hasPairAround 1 = .ok (.istore_n 2, 1) := by decide +kernel
theorem dX3_hasPairAround_2 : decode cX3_hasPairAround 2 = .ok (.iload_n 2, 1) := by decide +kernel
theorem dX3_hasPairAround_3 : decode cX3_hasPairAround 3 = .ok (.iload_n 1, 1) := by decide +kernel
theorem dX3_hasPairAround_4 : decode cX3_hasPairAround 4 = .ok (.if_icmp .gt 39, 3) := by decide +kernel
theorem dX3_hasPairAround_7 : decode cX3_hasPairAround 7 = .ok (.iload_n 1, 1) := by decide +kernel
theorem dX3_hasPairAround_8 : decode cX3_hasPairAround 8 = .ok (.iload_n 2, 1) := by decide +kernel
theorem dX3_hasPairAround_9 : decode cX3_hasPairAround 9 = .ok (.iadd, 1) := by decide +kernel
theorem dX3_hasPairAround_10 : decode cX3_hasPairAround 10 = .ok (.bipush 32, 2) := by decide +kernel
theorem dX3_hasPairAround_12 : decode cX3_hasPairAround 12 = .ok (.if_icmp .ge 31, 3) := by decide +kernel
theorem dX3_hasPairAround_15 : decode cX3_hasPairAround 15 = .ok (.iload_n 0, 1) := by decide +kernel
theorem dX3_hasPairAround_16 : decode cX3_hasPairAround 16 = .ok (.iload_n 1, 1) := by decide +kernel
theorem dX3_hasPairAround_17 : decode cX3_hasPairAround 17 = .ok (.iload_n 2, 1) := by decide +kernel
theorem dX3_hasPairAround_18 : decode cX3_hasPairAround 18 = .ok (.isub, 1) := by decide +kernel
theorem dX3_hasPairAround_19 : decode cX3_hasPairAround 19 = .ok (.invokestatic 260, 3) := by decide +kernel
theorem dX3_hasPairAround_22 : decode cX3_hasPairAround 22 = .ok (.ifCond .eq 15, 3) := by decide +kernel
theorem dX3_hasPairAround_25 : decode cX3_hasPairAround 25 = .ok (.iload_n 0, 1) := by decide +kernel
theorem dX3_hasPairAround_26 : decode cX3_hasPairAround 26 = .ok (.iload_n 1, 1) := by decide +kernel
theorem dX3_hasPairAround_27 : decode cX3_hasPairAround 27 = .ok (.iload_n 2, 1) := by decide +kernel
theorem dX3_hasPairAround_28 : decode cX3_hasPairAround 28 = .ok (.iadd, 1) := by decide +kernel
theorem dX3_hasPairAround_29 : decode cX3_hasPairAround 29 = .ok (.invokestatic 260, 3) := by decide +kernel
theorem dX3_hasPairAround_32 : decode cX3_hasPairAround 32 = .ok (.ifCond .eq 5, 3) := by decide +kernel
theorem dX3_hasPairAround_35 : decode cX3_hasPairAround 35 = .ok (.iconst 1, 1) := by decide +kernel
theorem dX3_hasPairAround_36 : decode cX3_hasPairAround 36 = .ok (.ireturn, 1) := by decide +kernel
theorem dX3_hasPairAround_37 : decode cX3_hasPairAround 37 = .ok (.iinc 2 1, 3) := by decide +kernel
theorem dX3_hasPairAround_40 : decode cX3_hasPairAround 40 = .ok (.goto (-38), 3) := by decide +kernel
theorem dX3_hasPairAround_43 : decode cX3_hasPairAround 43 = .ok (.iconst 0, 1) := by decide +kernel
theorem dX3_hasPairAround_44 : decode cX3_hasPairAround 44 = .ok (.ireturn, 1) := by decide +kernel
theorem dX3_hasChannel_0 : decode cX3_hasChannel 0 = .ok (.iload_n 1, 1) := by decide +kernel
theorem dX3_hasChannel_1 : decode cX3_hasChannel 1 = .ok (.ifCond .lt 21, 3) := by decide +kernel
theorem dX3_hasChannel_4 : decode cX3_hasChannel 4 = .ok (.iload_n 1, 1) := by decide +kernel
theorem dX3_hasChannel_5 : decode cX3_hasChannel 5 = .ok (.bipush 32, 2) := by decide +kernel
theorem dX3_hasChannel_7 : decode cX3_hasChannel 7 = .ok (.if_icmp .ge 15, 3) := by decide +kernel
theorem dX3_hasChannel_10 : decode cX3_hasChannel 10 = .ok (.iload_n 0, 1) := by decide +kernel
theorem dX3_hasChannel_11 : decode cX3_hasChannel 11 = .ok (.iload_n 1, 1) := by decide +kernel
theorem dX3_hasChannel_12 : decode cX3_hasChannel 12 = .ok (.iushr, 1) := by decide +kernel
theorem dX3_hasChannel_13 : decode cX3_hasChannel 13 = .ok (.iconst 1, 1) := by decide +kernel
theorem dX3_hasChannel_14 : decode cX3_hasChannel 14 = .ok (.iand, 1) := by decide +kernel
theorem dX3_hasChannel_15 : decode cX3_hasChannel 15 = .ok (.ifCond .eq 7, 3) := by decide +kernel
theorem dX3_hasChannel_18 : decode cX3_hasChannel 18 = .ok (.iconst 1, 1) := by decide +kernel
theorem dX3_hasChannel_19 : decode cX3_hasChannel 19 = .ok (.goto 4, 3) := by decide +kernel
theorem dX3_hasChannel_22 : decode cX3_hasChannel 22 = .ok (.iconst 0, 1) := by decide +kernel
theorem dX3_hasChannel_23 : decode cX3_hasChannel 23 = .ok (.ireturn, 1) := by decide +kernel
theorem dX3_lookAt_0 : decode cX3_lookAt 0 = .ok (.aload_n 0, 1) := by decide +kernel
theorem dX3_lookAt_1 : decode cX3_lookAt 1 = .ok (.getfield 41, 3) := by decide +kernel
theorem dX3_lookAt_4 : decode cX3_lookAt 4 = .ok (.iconst 0, 1) := by decide +kernel
theorem dX3_lookAt_5 : decode cX3_lookAt 5 = .ok (.invokestatic 47, 3) := by decide +kernel
theorem dX3_lookAt_8 : decode cX3_lookAt 8 = .ok (.aload_n 0, 1) := by decide +kernel
theorem dX3_lookAt_9 : decode cX3_lookAt 9 = .ok (.getfield 44, 3) := by decide +kernel
theorem dX3_lookAt_12 : decode cX3_lookAt 12 = .ok (.iconst 0, 1) := by decide +kernel
theorem dX3_lookAt_13 : decode cX3_lookAt 13 = .ok (.invokestatic 47, 3) := by decide +kernel
theorem dX3_lookAt_16 : decode cX3_lookAt 16 = .ok (.aload_n 0, 1) := by decide +kernel
theorem dX3_lookAt_17 : decode cX3_lookAt 17 = .ok (.iconst 0, 1) := by decide +kernel
theorem dX3_lookAt_18 : decode cX3_lookAt 18 = .ok (.putfield 191, 3) := by decide +kernel
theorem dX3_lookAt_21 : decode cX3_lookAt 21 = .ok (.aload_n 0, 1) := by decide +kernel
theorem dX3_lookAt_22 : decode cX3_lookAt 22 = .ok (.iconst 0, 1) := by decide +kernel
theorem dX3_lookAt_23 : decode cX3_lookAt 23 = .ok (.putfield 249, 3) := by decide +kernel
theorem dX3_lookAt_26 : decode cX3_lookAt 26 = .ok (.aload_n 0, 1) := by decide +kernel
theorem dX3_lookAt_27 : decode cX3_lookAt 27 = .ok (.getfield 19, 3) := by decide +kernel
theorem dX3_lookAt_30 : decode cX3_lookAt 30 = .ok (.iload_n 1, 1) := by decide +kernel
theorem dX3_lookAt_31 : decode cX3_lookAt 31 = .ok (.bipush 60, 2) := by decide +kernel
theorem dX3_lookAt_33 : decode cX3_lookAt 33 = .ok (.idiv, 1) := by decide +kernel
theorem dX3_lookAt_34 : decode cX3_lookAt 34 = .ok (.iaload, 1) := by decide +kernel
theorem dX3_lookAt_35 : decode cX3_lookAt 35 = .ok (.istore_n 2, 1) := by decide +kernel
theorem dX3_lookAt_36 : decode cX3_lookAt 36 = .ok (.aload_n 0, 1) := by decide +kernel
theorem dX3_lookAt_37 : decode cX3_lookAt 37 = .ok (.getfield 24, 3) := by decide +kernel
theorem dX3_lookAt_40 : decode cX3_lookAt 40 = .ok (.astore_n 3, 1) := by decide +kernel
theorem dX3_lookAt_41 : decode cX3_lookAt 41 = .ok (.aload_n 3, 1) := by decide +kernel
theorem dX3_lookAt_42 : decode cX3_lookAt 42 = .ok (.arraylength, 1) := by decide +kernel
theorem dX3_lookAt_43 : decode cX3_lookAt 43 = .ok (.istore 4, 2) := by decide +kernel
theorem dX3_lookAt_45 : decode cX3_lookAt 45 = .ok (.iconst 0, 1) := by decide +kernel
theorem dX3_lookAt_46 : decode cX3_lookAt 46 = .ok (.istore 5, 2) := by decide +kernel
theorem dX3_lookAt_48 : decode cX3_lookAt 48 = .ok (.iload 5, 2) := by decide +kernel
theorem dX3_lookAt_50 : decode cX3_lookAt 50 = .ok (.iload 4, 2) := by decide +kernel
theorem dX3_lookAt_52 : decode cX3_lookAt 52 = .ok (.if_icmp .ge 31, 3) := by decide +kernel
theorem dX3_lookAt_55 : decode cX3_lookAt 55 = .ok (.aload_n 3, 1) := by decide +kernel
theorem dX3_lookAt_56 : decode cX3_lookAt 56 = .ok (.iload 5, 2) := by decide +kernel
theorem dX3_lookAt_58 : decode cX3_lookAt 58 = .ok (.aaload, 1) := by decide +kernel
theorem dX3_lookAt_59 : decode cX3_lookAt 59 = .ok (.astore 6, 2) := by decide +kernel
theorem dX3_lookAt_61 : decode cX3_lookAt 61 = .ok (.aload 6, 2) := by decide +kernel
theorem dX3_lookAt_63 : decode cX3_lookAt 63 = .ok (.iload_n 1, 1) := by decide +kernel
theorem dX3_lookAt_64 : decode cX3_lookAt 64 = .ok (.invokevirtual 236, 3) := by decide +kernel
theorem dX3_lookAt_67 : decode cX3_lookAt 67 = .ok (.ifCond .eq 10, 3) := by decide +kernel
theorem dX3_lookAt_70 : decode cX3_lookAt 70 = .ok (.aload_n 0, 1) := by decide +kernel
theorem dX3_lookAt_71 : decode cX3_lookAt 71 = .ok (.aload 6, 2) := by decide +kernel
theorem dX3_lookAt_73 : decode cX3_lookAt 73 = .ok (.iload_n 2, 1) := by decide +kernel
theorem dX3_lookAt_74 : decode cX3_lookAt 74 = .ok (.invokevirtual 266, 3) := by decide +kernel
theorem dX3_lookAt_77 : decode cX3_lookAt 77 = .ok (.iinc 5 1, 3) := by decide +kernel
theorem dX3_lookAt_80 : decode cX3_lookAt 80 = .ok (.goto (-32), 3) := by decide +kernel
theorem dX3_lookAt_83 : decode cX3_lookAt 83 = .ok (.return_, 1) := by decide +kernel
theorem dX3_addToLook_0 : decode cX3_addToLook 0 = .ok (.aload_n 0, 1) := by decide +kernel
theorem dX3_addToLook_1 : decode cX3_addToLook 1 = .ok (.getfield 41, 3) := by decide +kernel
theorem dX3_addToLook_4 : decode cX3_addToLook 4 = .ok (.aload_n 1, 1) := by decide +kernel
theorem dX3_addToLook_5 : decode cX3_addToLook 5 = .ok (.getfield 222, 3) := by decide +kernel
theorem dX3_addToLook_8 : decode cX3_addToLook 8 = .ok (.dup2, 1) := by decide +kernel
theorem dX3_addToLook_9 : decode cX3_addToLook 9 = .ok (.iaload, 1) := by decide +kernel
theorem dX3_addToLook_10 : decode cX3_addToLook 10 = .ok (.aload_n 1, 1) := by decide +kernel
theorem dX3_addToLook_11 : decode cX3_addToLook 11 = .ok (.getfield 149, 3) := by decide +kernel
theorem dX3_addToLook_14 : decode cX3_addToLook 14 = .ok (.iadd, 1) := by decide +kernel
theorem dX3_addToLook_15 : decode cX3_addToLook 15 = .ok (.iastore, 1) := by decide +kernel
theorem dX3_addToLook_16 : decode cX3_addToLook 16 = .ok (.iconst 0, 1) := by decide +kernel
theorem dX3_addToLook_17 : decode cX3_addToLook 17 = .ok (.istore_n 3, 1) := by decide +kernel
theorem dX3_addToLook_18 : decode cX3_addToLook 18 = .ok (.iload_n 3, 1) := by decide +kernel
theorem dX3_addToLook_19 : decode cX3_addToLook 19 = .ok (.iconst 3, 1) := by decide +kernel
theorem dX3_addToLook_20 : decode cX3_addToLook 20 = .ok (.if_icmp .ge 48, 3) := by decide +kernel
theorem dX3_addToLook_23 : decode cX3_addToLook 23 = .ok (.bipush 10, 2) := by decide +kernel
theorem dX3_addToLook_25 : decode cX3_addToLook 25 = .ok (.bipush 10, 2) := by decide +kernel
theorem dX3_addToLook_27 : decode cX3_addToLook 27 = .ok (.aload_n 1, 1) := by decide +kernel
theorem dX3_addToLook_28 : decode cX3_addToLook 28 = .ok (.getfield 219, 3) := by decide +kernel
theorem dX3_addToLook_31 : decode cX3_addToLook 31 = .ok (.iload_n 3, 1) := by decide +kernel
theorem dX3_addToLook_32 : decode cX3_addToLook 32 = .ok (.isub, 1) := by decide +kernel
theorem dX3_addToLook_33 : decode cX3_addToLook 33 = .ok (.invokestatic 70, 3) := by decide +kernel
theorem dX3_addToLook_36 : decode cX3_addToLook 36 = .ok (.imul, 1) := by decide +kernel
theorem dX3_addToLook_37 : decode cX3_addToLook 37 = .ok (.iadd, 1) := by decide +kernel
theorem dX3_addToLook_38 : decode cX3_addToLook 38 = .ok (.iload_n 2, 1) := by decide +kernel
theorem dX3_addToLook_39 : decode cX3_addToLook 39 = .ok (.iadd, 1) := by decide +kernel
theorem dX3_addToLook_40 : decode cX3_addToLook 40 = .ok (.istore 4, 2) := by decide +kernel
theorem dX3_addToLook_42 : decode cX3_addToLook 42 = .ok (.aload_n 0, 1) := by decide +kernel
theorem dX3_addToLook_43 : decode cX3_addToLook 43 = .ok (.getfield 44, 3) := by decide +kernel
theorem dX3_addToLook_46 : decode cX3_addToLook 46 = .ok (.iload_n 3, 1) := by decide +kernel
theorem dX3_addToLook_47 : decode cX3_addToLook 47 = .ok (.dup2, 1) := by decide +kernel
theorem dX3_addToLook_48 : decode cX3_addToLook 48 = .ok (.iaload, 1) := by decide +kernel
theorem dX3_addToLook_49 : decode cX3_addToLook 49 = .ok (.iconst 0, 1) := by decide +kernel
theorem dX3_addToLook_50 : decode cX3_addToLook 50 = .ok (.aload_n 1, 1) := by decide +kernel
theorem dX3_addToLook_51 : decode cX3_addToLook 51 = .ok (.getfield 152, 3) := by decide +kernel
theorem dX3_addToLook_54 : decode cX3_addToLook 54 = .ok (.iload 4, 2) := by decide +kernel
theorem dX3_addToLook_56 : decode cX3_addToLook 56 = .ok (.isub, 1) := by decide +kernel
theorem dX3_addToLook_57 : decode cX3_addToLook 57 = .ok (.invokestatic 270, 3) := by decide +kernel
theorem dX3_addToLook_60 : decode cX3_addToLook 60 = .ok (.iadd, 1) := by decide +kernel
theorem dX3_addToLook_61 : decode cX3_addToLook 61 = .ok (.iastore, 1) := by decide +kernel
theorem dX3_addToLook_62 : decode cX3_addToLook 62 = .ok (.iinc 3 1, 3) := by decide +kernel
theorem dX3_addToLook_65 : decode cX3_addToLook 65 = .ok (.goto (-47), 3) := by decide +kernel
theorem dX3_addToLook_68 : decode cX3_addToLook 68 = .ok (.aload_n 1, 1) := by decide +kernel
theorem dX3_addToLook_69 : decode cX3_addToLook 69 = .ok (.getfield 155, 3) := by decide +kernel
theorem dX3_addToLook_72 : decode cX3_addToLook 72 = .ok (.istore_n 3, 1) := by decide +kernel
theorem dX3_addToLook_73 : decode cX3_addToLook 73 = .ok (.iload_n 3, 1) := by decide +kernel
theorem dX3_addToLook_74 : decode cX3_addToLook 74 = .ok (.iconst (-1), 1) := by decide +kernel
theorem dX3_addToLook_75 : decode cX3_addToLook 75 = .ok (.if_icmp .eq 68, 3) := by decide +kernel
theorem dX3_addToLook_78 : decode cX3_addToLook 78 = .ok (.aload_n 0, 1) := by decide +kernel
theorem dX3_addToLook_79 : decode cX3_addToLook 79 = .ok (.aload_n 0, 1) := by decide +kernel
theorem dX3_addToLook_80 : decode cX3_addToLook 80 = .ok (.getfield 249, 3) := by decide +kernel
theorem dX3_addToLook_83 : decode cX3_addToLook 83 = .ok (.ifCond .ne 40, 3) := by decide +kernel
theorem dX3_addToLook_86 : decode cX3_addToLook 86 = .ok (.aload_n 0, 1) := by decide +kernel
theorem dX3_addToLook_87 : decode cX3_addToLook 87 = .ok (.getfield 191, 3) := by decide +kernel
theorem dX3_addToLook_90 : decode cX3_addToLook 90 = .ok (.iload_n 3, 1) := by decide +kernel
theorem dX3_addToLook_91 : decode cX3_addToLook 91 = .ok (.iconst 1, 1) := by decide +kernel
theorem dX3_addToLook_92 : decode cX3_addToLook 92 = .ok (.isub, 1) := by decide +kernel
theorem dX3_addToLook_93 : decode cX3_addToLook 93 = .ok (.invokestatic 260, 3) := by decide +kernel
theorem dX3_addToLook_96 : decode cX3_addToLook 96 = .ok (.ifCond .ne 27, 3) := by decide +kernel
theorem dX3_addToLook_99 : decode cX3_addToLook 99 = .ok (.aload_n 0, 1) := by decide +kernel
theorem dX3_addToLook_100 : decode cX3_addToLook 100 = .ok (.getfield 191, 3) := by decide +kernel
theorem dX3_addToLook_103 : decode cX3_addToLook 103 = .ok (.iload_n 3, 1) := by decide +kernel
theorem dX3_addToLook_104 : decode cX3_addToLook 104 = .ok (.invokestatic 260, 3) := by decide +kernel
theorem dX3_addToLook_107 : decode cX3_addToLook 107 = .ok (.ifCond .ne 16, 3) := by decide +kernel
theorem dX3_addToLook_110 : decode cX3_addToLook 110 = .ok (.aload_n 0, 1) := by decide +kernel
theorem dX3_addToLook_111 : decode cX3_addToLook 111 = .ok (.getfield 191, 3) := by decide +kernel
theorem dX3_addToLook_114 : decode cX3_addToLook 114 = .ok (.iload_n 3, 1) := by decide +kernel
theorem dX3_addToLook_115 : decode cX3_addToLook 115 = .ok (.iconst 1, 1) := by decide +kernel
theorem dX3_addToLook_116 : decode cX3_addToLook 116 = .ok (.iadd, 1) := by decide +kernel
theorem dX3_addToLook_117 : decode cX3_addToLook 117 = .ok (.invokestatic 260, 3) := by decide +kernel
theorem dX3_addToLook_120 : decode cX3_addToLook 120 = .ok (.ifCond .eq 7, 3) := by decide +kernel
theorem dX3_addToLook_123 : decode cX3_addToLook 123 = .ok (.iconst 1, 1) := by decide +kernel
theorem dX3_addToLook_124 : decode cX3_addToLook 124 = .ok (.goto 4, 3) := by decide +kernel
theorem dX3_addToLook_127 : decode cX3_addToLook 127 = .ok (.iconst 0, 1) := by decide +kernel
theorem dX3_addToLook_128 : decode cX3_addToLook 128 = .ok (.putfield 249, 3) := by decide +kernel
theorem dX3_addToLook_131 : decode cX3_addToLook 131 = .ok (.aload_n 0, 1) := by decide +kernel
theorem dX3_addToLook_132 : decode cX3_addToLook 132 = .ok (.dup, 1) := by decide +kernel
theorem dX3_addToLook_133 : decode cX3_addToLook 133 = .ok (.getfield 191, 3) := by decide +kernel
theorem dX3_addToLook_136 : decode cX3_addToLook 136 = .ok (.iconst 1, 1) := by decide +kernel
theorem dX3_addToLook_137 : decode cX3_addToLook 137 = .ok (.iload_n 3, 1) := by decide +kernel
theorem dX3_addToLook_138 : decode cX3_addToLook 138 = .ok (.ishl, 1) := by decide +kernel
theorem dX3_addToLook_139 : decode cX3_addToLook 139 = .ok (.ior, 1) := by decide +kernel
theorem dX3_addToLook_140 : decode cX3_addToLook 140 = .ok (.putfield 191, 3) := by decide +kernel
theorem dX3_addToLook_143 : decode cX3_addToLook 143 = .ok (.return_, 1) := by decide +kernel
theorem dX3_firstFineStart_0 : decode cX3_firstFineStart 0 = .ok (.iconst 0, 1) := by decide +kernel
theorem dX3_firstFineStart_1 : decode cX3_firstFineStart 1 = .ok (.istore_n 3, 1) := by decide +kernel
theorem dX3_firstFineStart_2 : decode cX3_firstFineStart 2 = .ok (.iload_n 2, 1) := by decide +kernel
theorem dX3_firstFineStart_3 : decode cX3_firstFineStart 3 = .ok (.istore 4, 2) := by decide +kernel
theorem dX3_firstFineStart_5 : decode cX3_firstFineStart 5 = .ok (.iload 4, 2) := by decide +kernel
theorem dX3_firstFineStart_7 : decode cX3_firstFineStart 7 = .ok (.sipush 1000, 3) := by decide +kernel
theorem dX3_firstFineStart_10 : decode cX3_firstFineStart 10 = .ok (.if_icmp .ge 66, 3) := by decide +kernel
theorem dX3_firstFineStart_13 : decode cX3_firstFineStart 13 = .ok (.aload_n 1, 1) := by decide +kernel
theorem dX3_firstFineStart_14 : decode cX3_firstFineStart 14 = .ok (.iload 4, 2) := by decide +kernel
theorem dX3_firstFineStart_16 : decode cX3_firstFineStart 16 = .ok (.putfield 123, 3) := by decide +kernel
theorem dX3_firstFineStart_19 : decode cX3_firstFineStart 19 = .ok (.aload_n 0, 1) := by decide +kernel
theorem dX3_firstFineStart_20 : decode cX3_firstFineStart 20 = .ok (.iload 4, 2) := by decide +kernel
theorem dX3_firstFineStart_22 : decode cX3_firstFineStart 22 = .ok (.invokevirtual 199, 3) := by decide +kernel
theorem dX3_firstFineStart_25 : decode cX3_firstFineStart 25 = .ok (.ifCond .ne 9, 3) := by decide +kernel
theorem dX3_firstFineStart_28 : decode cX3_firstFineStart 28 = .ok (.iload_n 3, 1) := by decide +kernel
theorem dX3_firstFineStart_29 : decode cX3_firstFineStart 29 = .ok (.iconst 1, 1) := by decide +kernel
theorem dX3_firstFineStart_30 : decode cX3_firstFineStart 30 = .ok (.iadd, 1) := by decide +kernel
theorem dX3_firstFineStart_31 : decode cX3_firstFineStart 31 = .ok (.goto 4, 3) := by decide +kernel
theorem dX3_firstFineStart_34 : decode cX3_firstFineStart 34 = .ok (.iconst 0, 1) := by decide +kernel
theorem dX3_firstFineStart_35 : decode cX3_firstFineStart 35 = .ok (.istore_n 3, 1) := by decide +kernel
theorem dX3_firstFineStart_36 : decode cX3_firstFineStart 36 = .ok (.iload_n 3, 1) := by decide +kernel
theorem dX3_firstFineStart_37 : decode cX3_firstFineStart 37 = .ok (.aload_n 1, 1) := by decide +kernel
theorem dX3_firstFineStart_38 : decode cX3_firstFineStart 38 = .ok (.getfield 220, 3) := by decide +kernel
theorem dX3_firstFineStart_41 : decode cX3_firstFineStart 41 = .ok (.if_icmp .lt 29, 3) := by decide +kernel
theorem dX3_firstFineStart_44 : decode cX3_firstFineStart 44 = .ok (.aload_n 1, 1) := by decide +kernel
theorem dX3_firstFineStart_45 : decode cX3_firstFineStart 45 = .ok (.iload 4, 2) := by decide +kernel
theorem dX3_firstFineStart_47 : decode cX3_firstFineStart 47 = .ok (.aload_n 1, 1) := by decide +kernel
theorem dX3_firstFineStart_48 : decode cX3_firstFineStart 48 = .ok (.getfield 220, 3) := by decide +kernel
theorem dX3_firstFineStart_51 : decode cX3_firstFineStart 51 = .ok (.isub, 1) := by decide +kernel
theorem dX3_firstFineStart_52 : decode cX3_firstFineStart 52 = .ok (.iconst 1, 1) := by decide +kernel
theorem dX3_firstFineStart_53 : decode cX3_firstFineStart 53 = .ok (.iadd, 1) := by decide +kernel
theorem dX3_firstFineStart_54 : decode cX3_firstFineStart 54 = .ok (.putfield 123, 3) := by decide +kernel
theorem dX3_firstFineStart_57 : decode cX3_firstFineStart 57 = .ok (.aload_n 0, 1) := by decide +kernel
theorem dX3_firstFineStart_58 : decode cX3_firstFineStart 58 = .ok (.aload_n 1, 1) := by decide +kernel
theorem dX3_firstFineStart_59 : decode cX3_firstFineStart 59 = .ok (.invokevirtual 225, 3) := by decide +kernel
theorem dX3_firstFineStart_62 : decode cX3_firstFineStart 62 = .ok (.ifCond .eq 8, 3) := by decide +kernel
theorem dX3_firstFineStart_65 : decode cX3_firstFineStart 65 = .ok (.aload_n 1, 1) := by decide +kernel
theorem dX3_firstFineStart_66 : decode cX3_firstFineStart 66 = .ok (.getfield 123, 3) := by decide +kernel
theorem dX3_firstFineStart_69 : decode cX3_firstFineStart 69 = .ok (.ireturn, 1) := by decide +kernel
theorem dX3_firstFineStart_70 : decode cX3_firstFineStart 70 = .ok (.iinc 4 1, 3) := by decide +kernel
theorem dX3_firstFineStart_73 : decode cX3_firstFineStart 73 = .ok (.goto (-68), 3) := by decide +kernel
theorem dX3_firstFineStart_76 : decode cX3_firstFineStart 76 = .ok (.iconst (-1), 1) := by decide +kernel
theorem dX3_firstFineStart_77 : decode cX3_firstFineStart 77 = .ok (.ireturn, 1) := by decide +kernel
theorem dX3_callOff_0 : decode cX3_callOff 0 = .ok (.aload_n 0, 1) := by decide +kernel
theorem dX3_callOff_1 : decode cX3_callOff 1 = .ok (.getfield 24, 3) := by decide +kernel
theorem dX3_callOff_4 : decode cX3_callOff 4 = .ok (.astore_n 2, 1) := by decide +kernel
theorem dX3_callOff_5 : decode cX3_callOff 5 = .ok (.aload_n 2, 1) := by decide +kernel
theorem dX3_callOff_6 : decode cX3_callOff 6 = .ok (.arraylength, 1) := by decide +kernel
theorem dX3_callOff_7 : decode cX3_callOff 7 = .ok (.istore_n 3, 1) := by decide +kernel
theorem dX3_callOff_8 : decode cX3_callOff 8 = .ok (.iconst 0, 1) := by decide +kernel
theorem dX3_callOff_9 : decode cX3_callOff 9 = .ok (.istore 4, 2) := by decide +kernel
theorem dX3_callOff_11 : decode cX3_callOff 11 = .ok (.iload 4, 2) := by decide +kernel
theorem dX3_callOff_13 : decode cX3_callOff 13 = .ok (.iload_n 3, 1) := by decide +kernel
theorem dX3_callOff_14 : decode cX3_callOff 14 = .ok (.if_icmp .ge 44, 3) := by decide +kernel
theorem dX3_callOff_17 : decode cX3_callOff 17 = .ok (.aload_n 2, 1) := by decide +kernel
theorem dX3_callOff_18 : decode cX3_callOff 18 = .ok (.iload 4, 2) := by decide +kernel
theorem dX3_callOff_20 : decode cX3_callOff 20 = .ok (.aaload, 1) := by decide +kernel
theorem dX3_callOff_21 : decode cX3_callOff 21 = .ok (.astore 5, 2) := by decide +kernel
theorem dX3_callOff_23 : decode cX3_callOff 23 = .ok (.aload 5, 2) := by decide +kernel
theorem dX3_callOff_25 : decode cX3_callOff 25 = .ok (.getfield 110, 3) := by decide +kernel
theorem dX3_callOff_28 : decode cX3_callOff 28 = .ok (.ifCond .eq 24, 3) := by decide +kernel
theorem dX3_callOff_31 : decode cX3_callOff 31 = .ok (.aload_n 1, 1) := by decide +kernel
theorem dX3_callOff_32 : decode cX3_callOff 32 = .ok (.aload 5, 2) := by decide +kernel
theorem dX3_callOff_34 : decode cX3_callOff 34 = .ok (.invokevirtual 229, 3) := by decide +kernel
theorem dX3_callOff_37 : decode cX3_callOff 37 = .ok (.ifCond .eq 15, 3) := by decide +kernel
theorem dX3_callOff_40 : decode cX3_callOff 40 = .ok (.aload 5, 2) := by decide +kernel
theorem dX3_callOff_42 : decode cX3_callOff 42 = .ok (.iconst 0, 1) := by decide +kernel
theorem dX3_callOff_43 : decode cX3_callOff 43 = .ok (.putfield 110, 3) := by decide +kernel
theorem dX3_callOff_46 : decode cX3_callOff 46 = .ok (.aload 5, 2) := by decide +kernel
theorem dX3_callOff_48 : decode cX3_callOff 48 = .ok (.iconst 1, 1) := by decide +kernel
theorem dX3_callOff_49 : decode cX3_callOff 49 = .ok (.putfield 273, 3) := by decide +kernel
theorem dX3_callOff_52 : decode cX3_callOff 52 = .ok (.iinc 4 1, 3) := by decide +kernel
theorem dX3_callOff_55 : decode cX3_callOff 55 = .ok (.goto (-44), 3) := by decide +kernel
theorem dX3_callOff_58 : decode cX3_callOff 58 = .ok (.return_, 1) := by decide +kernel
theorem dX3_replan_0 : decode cX3_replan 0 = .ok (.iconst 0, 1) := by decide +kernel
theorem dX3_replan_1 : decode cX3_replan 1 = .ok (.istore_n 2, 1) := by decide +kernel
theorem dX3_replan_2 : decode cX3_replan 2 = .ok (.iconst 0, 1) := by decide +kernel
theorem dX3_replan_3 : decode cX3_replan 3 = .ok (.istore_n 3, 1) := by decide +kernel
theorem dX3_replan_4 : decode cX3_replan 4 = .ok (.iload_n 3, 1) := by decide +kernel
theorem dX3_replan_5 : decode cX3_replan 5 = .ok (.bipush 16, 2) := by decide +kernel
theorem dX3_replan_7 : decode cX3_replan 7 = .ok (.if_icmp .ge 55, 3) := by decide +kernel
theorem dX3_replan_10 : decode cX3_replan 10 = .ok (.aload_n 0, 1) := by decide +kernel
theorem dX3_replan_11 : decode cX3_replan 11 = .ok (.invokevirtual 276, 3) := by decide +kernel
theorem dX3_replan_14 : decode cX3_replan 14 = .ok (.astore 4, 2) := by decide +kernel
theorem dX3_replan_16 : decode cX3_replan 16 = .ok (.aload 4, 2) := by decide +kernel
theorem dX3_replan_18 : decode cX3_replan 18 = .ok (.ifnonnull 6, 3) := by decide +kernel
theorem dX3_replan_21 : decode cX3_replan 21 = .ok (.goto 41, 3) := by decide +kernel
theorem dX3_replan_24 : decode cX3_replan 24 = .ok (.aload 4, 2) := by decide +kernel
theorem dX3_replan_26 : decode cX3_replan 26 = .ok (.iconst 0, 1) := by decide +kernel
theorem dX3_replan_27 : decode cX3_replan 27 = .ok (.putfield 273, 3) := by decide +kernel
theorem dX3_replan_30 : decode cX3_replan 30 = .ok (.aload 4, 2) := by decide +kernel
theorem dX3_replan_32 : decode cX3_replan 32 = .ok (.iconst 1, 1) := by decide +kernel
theorem dX3_replan_33 : decode cX3_replan 33 = .ok (.putfield 110, 3) := by decide +kernel
theorem dX3_replan_36 : decode cX3_replan 36 = .ok (.aload_n 0, 1) := by decide +kernel
theorem dX3_replan_37 : decode cX3_replan 37 = .ok (.aload 4, 2) := by decide +kernel
theorem dX3_replan_39 : decode cX3_replan 39 = .ok (.iload_n 1, 1) := by decide +kernel
theorem dX3_replan_40 : decode cX3_replan 40 = .ok (.invokevirtual 126, 3) := by decide +kernel
theorem dX3_replan_43 : decode cX3_replan 43 = .ok (.iconst (-1), 1) := by decide +kernel
theorem dX3_replan_44 : decode cX3_replan 44 = .ok (.if_icmp .ne 12, 3) := by decide +kernel
theorem dX3_replan_47 : decode cX3_replan 47 = .ok (.aload 4, 2) := by decide +kernel
theorem dX3_replan_49 : decode cX3_replan 49 = .ok (.iconst 0, 1) := by decide +kernel
theorem dX3_replan_50 : decode cX3_replan 50 = .ok (.putfield 110, 3) := by decide +kernel
theorem dX3_replan_53 : decode cX3_replan 53 = .ok (.iinc 2 1, 3) := by decide +kernel
theorem dX3_replan_56 : decode cX3_replan 56 = .ok (.iinc 3 1, 3) := by decide +kernel
theorem dX3_replan_59 : decode cX3_replan 59 = .ok (.goto (-55), 3) := by decide +kernel
theorem dX3_replan_62 : decode cX3_replan 62 = .ok (.iload_n 2, 1) := by decide +kernel
theorem dX3_replan_63 : decode cX3_replan 63 = .ok (.ireturn, 1) := by decide +kernel
theorem dX3_earliestWaiting_0 : decode cX3_earliestWaiting 0 = .ok (.aconst_null, 1) := by decide +kernel
theorem dX3_earliestWaiting_1 : decode cX3_earliestWaiting 1 = .ok (.astore_n 1, 1) := by decide +kernel
theorem dX3_earliestWaiting_2 : decode cX3_earliestWaiting 2 = .ok (.aload_n 0, 1) := by decide +kernel
theorem dX3_earliestWaiting_3 : decode cX3_earliestWaiting 3 = .ok (.getfield 24, 3) := by decide +kernel
theorem dX3_earliestWaiting_6 : decode cX3_earliestWaiting 6 = .ok (.astore_n 2, 1) := by decide +kernel
theorem dX3_earliestWaiting_7 : decode cX3_earliestWaiting 7 = .ok (.aload_n 2, 1) := by decide +kernel
theorem dX3_earliestWaiting_8 : decode cX3_earliestWaiting 8 = .ok (.arraylength, 1) := by decide +kernel
theorem dX3_earliestWaiting_9 : decode cX3_earliestWaiting 9 = .ok (.istore_n 3, 1) := by decide +kernel
theorem dX3_earliestWaiting_10 : decode cX3_earliestWaiting 10 = .ok (.iconst 0, 1) := by decide +kernel
theorem dX3_earliestWaiting_11 : decode cX3_earliestWaiting 11 = .ok (.istore 4, 2) := by decide +kernel
theorem dX3_earliestWaiting_13 : decode cX3_earliestWaiting 13 = .ok (.iload 4, 2) := by decide +kernel
theorem dX3_earliestWaiting_15 : decode cX3_earliestWaiting 15 = .ok (.iload_n 3, 1) := by decide +kernel
theorem dX3_earliestWaiting_16 : decode cX3_earliestWaiting 16 = .ok (.if_icmp .ge 42, 3) := by decide +kernel
theorem dX3_earliestWaiting_19 : decode cX3_earliestWaiting 19 = .ok (.aload_n 2, 1) := by decide +kernel
theorem dX3_earliestWaiting_20 : decode cX3_earliestWaiting 20 = .ok (.iload 4, 2) := by decide +kernel
theorem dX3_earliestWaiting_22 : decode cX3_earliestWaiting 22 = .ok (.aaload, 1) := by decide +kernel
theorem dX3_earliestWaiting_23 : decode cX3_earliestWaiting 23 = .ok (.astore 5, 2) := by decide +kernel
theorem dX3_earliestWaiting_25 : decode cX3_earliestWaiting 25 = .ok (.aload 5, 2) := by decide +kernel
theorem dX3_earliestWaiting_27 : decode cX3_earliestWaiting 27 = .ok (.getfield 273, 3) := by decide +kernel
theorem dX3_earliestWaiting_30 : decode cX3_earliestWaiting 30 = .ok (.ifCond .eq 22, 3) := by decide +kernel
theorem dX3_earliestWaiting_33 : decode cX3_earliestWaiting 33 = .ok (.aload_n 1, 1) := by decide +kernel
theorem dX3_earliestWaiting_34 : decode cX3_earliestWaiting 34 = .ok (.ifnull 15, 3) := by decide +kernel
theorem dX3_earliestWaiting_37 : decode cX3_earliestWaiting 37 = .ok (.aload 5, 2) := by decide +kernel
theorem dX3_earliestWaiting_39 : decode cX3_earliestWaiting 39 = .ok (.getfield 123, 3) := by decide +kernel
theorem dX3_earliestWaiting_42 : decode cX3_earliestWaiting 42 = .ok (.aload_n 1, 1) := by decide +kernel
theorem dX3_earliestWaiting_43 : decode cX3_earliestWaiting 43 = .ok (.getfield 123, 3) := by decide +kernel
theorem dX3_earliestWaiting_46 : decode cX3_earliestWaiting 46 = .ok (.if_icmp .ge 6, 3) := by decide +kernel
theorem dX3_earliestWaiting_49 : decode cX3_earliestWaiting 49 = .ok (.aload 5, 2) := by decide +kernel
theorem dX3_earliestWaiting_51 : decode cX3_earliestWaiting 51 = .ok (.astore_n 1, 1) := by decide +kernel
theorem dX3_earliestWaiting_52 : decode cX3_earliestWaiting 52 = .ok (.iinc 4 1, 3) := by decide +kernel
theorem dX3_earliestWaiting_55 : decode cX3_earliestWaiting 55 = .ok (.goto (-42), 3) := by decide +kernel
theorem dX3_earliestWaiting_58 : decode cX3_earliestWaiting 58 = .ok (.aload_n 1, 1) := by decide +kernel
theorem dX3_earliestWaiting_59 : decode cX3_earliestWaiting 59 = .ok (.areturn, 1) := by decide +kernel
theorem dX3_typedWish_0 : decode cX3_typedWish 0 = .ok (.aload_n 0, 1) := by decide +kernel
theorem dX3_typedWish_1 : decode cX3_typedWish 1 = .ok (.getfield 31, 3) := by decide +kernel
theorem dX3_typedWish_4 : decode cX3_typedWish 4 = .ok (.invokevirtual 280, 3) := by decide +kernel
theorem dX3_typedWish_7 : decode cX3_typedWish 7 = .ok (.astore_n 1, 1) := by decide +kernel
theorem dX3_typedWish_8 : decode cX3_typedWish 8 = .ok (.getstatic 284, 3) := by decide +kernel
theorem dX3_typedWish_11 : decode cX3_typedWish 11 = .ok (.astore_n 2, 1) := by decide +kernel
theorem dX3_typedWish_12 : decode cX3_typedWish 12 = .ok (.aload_n 2, 1) := by decide +kernel
theorem dX3_typedWish_13 : decode cX3_typedWish 13 = .ok (.arraylength, 1) := by decide +kernel
theorem dX3_typedWish_14 : decode cX3_typedWish 14 = .ok (.istore_n 3, 1) := by decide +kernel
theorem dX3_typedWish_15 : decode cX3_typedWish 15 = .ok (.iconst 0, 1) := by decide +kernel
theorem dX3_typedWish_16 : decode cX3_typedWish 16 = .ok (.istore 4, 2) := by decide +kernel
theorem dX3_typedWish_18 : decode cX3_typedWish 18 = .ok (.iload 4, 2) := by decide +kernel
theorem dX3_typedWish_20 : decode cX3_typedWish 20 = .ok (.iload_n 3, 1) := by decide +kernel
theorem dX3_typedWish_21 : decode cX3_typedWish 21 = .ok (.if_icmp .ge 30, 3) := by decide +kernel
theorem dX3_typedWish_24 : decode cX3_typedWish 24 = .ok (.aload_n 2, 1) := by decide +kernel
theorem dX3_typedWish_25 : decode cX3_typedWish 25 = .ok (.iload 4, 2) := by decide +kernel
theorem dX3_typedWish_27 : decode cX3_typedWish 27 = .ok (.aaload, 1) := by decide +kernel
theorem dX3_typedWish_28 : decode cX3_typedWish 28 = .ok (.astore 5, 2) := by decide +kernel
theorem dX3_typedWish_30 : decode cX3_typedWish 30 = .ok (.aload 5, 2) := by decide +kernel
theorem dX3_typedWish_32 : decode cX3_typedWish 32 = .ok (.getfield 288, 3) := by decide +kernel
theorem dX3_typedWish_35 : decode cX3_typedWish 35 = .ok (.aload_n 1, 1) := by decide +kernel
theorem dX3_typedWish_36 : decode cX3_typedWish 36 = .ok (.invokevirtual 294, 3) := by decide +kernel
theorem dX3_typedWish_39 : decode cX3_typedWish 39 = .ok (.ifCond .eq 6, 3) := by decide +kernel
theorem dX3_typedWish_42 : decode cX3_typedWish 42 = .ok (.aload 5, 2) := by decide +kernel
theorem dX3_typedWish_44 : decode cX3_typedWish 44 = .ok (.areturn, 1) := by decide +kernel
theorem dX3_typedWish_45 : decode cX3_typedWish 45 = .ok (.iinc 4 1, 3) := by decide +kernel
theorem dX3_typedWish_48 : decode cX3_typedWish 48 = .ok (.goto (-30), 3) := by decide +kernel
theorem dX3_typedWish_51 : decode cX3_typedWish 51 = .ok (.aconst_null, 1) := by decide +kernel
theorem dX3_typedWish_52 : decode cX3_typedWish 52 = .ok (.areturn, 1) := by decide +kernel
theorem dX4_init_0 : decode cX4_init 0 = .ok (.aload_n 0, 1) := by decide +kernel
theorem dX4_init_1 : decode cX4_init 1 = .ok (.invokespecial 1, 3) := by decide +kernel
theorem dX4_init_4 : decode cX4_init 4 = .ok (.aload_n 0, 1) := by decide +kernel
theorem dX4_init_5 : decode cX4_init 5 = .ok (.bipush 6, 2) := by decide +kernel
theorem dX4_init_7 : decode cX4_init 7 = .ok (.newarray .int, 2) := by decide +kernel
theorem dX4_init_9 : decode cX4_init 9 = .ok (.putfield 7, 3) := by decide +kernel
theorem dX4_init_12 : decode cX4_init 12 = .ok (.aload_n 0, 1) := by decide +kernel
theorem dX4_init_13 : decode cX4_init 13 = .ok (.iconst 3, 1) := by decide +kernel
theorem dX4_init_14 : decode cX4_init 14 = .ok (.newarray .int, 2) := by decide +kernel
theorem dX4_init_16 : decode cX4_init 16 = .ok (.putfield 13, 3) := by decide +kernel
theorem dX4_init_19 : decode cX4_init 19 = .ok (.aload_n 0, 1) := by decide +kernel
theorem dX4_init_20 : decode cX4_init 20 = .ok (.iconst 3, 1) := by decide +kernel
theorem dX4_init_21 : decode cX4_init 21 = .ok (.newarray .int, 2) := by decide +kernel
theorem dX4_init_23 : decode cX4_init 23 = .ok (.putfield 16, 3) := by decide +kernel
theorem dX4_init_26 : decode cX4_init 26 = .ok (.aload_n 0, 1) := by decide +kernel
theorem dX4_init_27 : decode cX4_init 27 = .ok (.bipush 17, 2) := by decide +kernel
theorem dX4_init_29 : decode cX4_init 29 = .ok (.newarray .int, 2) := by decide +kernel
theorem dX4_init_31 : decode cX4_init 31 = .ok (.putfield 19, 3) := by decide +kernel
theorem dX4_init_34 : decode cX4_init 34 = .ok (.aload_n 0, 1) := by decide +kernel
theorem dX4_init_35 : decode cX4_init 35 = .ok (.bipush 17, 2) := by decide +kernel
theorem dX4_init_37 : decode cX4_init 37 = .ok (.newarray .int, 2) := by decide +kernel
theorem dX4_init_39 : decode cX4_init 39 = .ok (.putfield 22, 3) := by decide +kernel
theorem dX4_init_42 : decode cX4_init 42 = .ok (.aload_n 0, 1) := by decide +kernel
theorem dX4_init_43 : decode cX4_init 43 = .ok (.bipush 17, 2) := by decide +kernel
theorem dX4_init_45 : decode cX4_init 45 = .ok (.newarray .int, 2) := by decide +kernel
theorem dX4_init_47 : decode cX4_init 47 = .ok (.putfield 25, 3) := by decide +kernel
theorem dX4_init_50 : decode cX4_init 50 = .ok (.aload_n 0, 1) := by decide +kernel
theorem dX4_init_51 : decode cX4_init 51 = .ok (.bipush 17, 2) := by decide +kernel
theorem dX4_init_53 : decode cX4_init 53 = .ok (.newarray .int, 2) := by decide +kernel
theorem dX4_init_55 : decode cX4_init 55 = .ok (.putfield 28, 3) := by decide +kernel
theorem dX4_init_58 : decode cX4_init 58 = .ok (.aload_n 0, 1) := by decide +kernel
theorem dX4_init_59 : decode cX4_init 59 = .ok (.bipush 17, 2) := by decide +kernel
theorem dX4_init_61 : decode cX4_init 61 = .ok (.newarray .int, 2) := by decide +kernel
theorem dX4_init_63 : decode cX4_init 63 = .ok (.putfield 31, 3) := by decide +kernel
theorem dX4_init_66 : decode cX4_init 66 = .ok (.aload_n 0, 1) := by decide +kernel
theorem dX4_init_67 : decode cX4_init 67 = .ok (.bipush 17, 2) := by decide +kernel
theorem dX4_init_69 : decode cX4_init 69 = .ok (.newarray .int, 2) := by decide +kernel
theorem dX4_init_71 : decode cX4_init 71 = .ok (.putfield 34, 3) := by decide +kernel
theorem dX4_init_74 : decode cX4_init 74 = .ok (.aload_n 0, 1) := by decide +kernel
theorem dX4_init_75 : decode cX4_init 75 = .ok (.bipush 17, 2) := by decide +kernel
theorem dX4_init_77 : decode cX4_init 77 = .ok (.newarray .int, 2) := by decide +kernel
theorem dX4_init_79 : decode cX4_init 79 = .ok (.putfield 37, 3) := by decide +kernel
theorem dX4_init_82 : decode cX4_init 82 = .ok (.aload_n 0, 1) := by decide +kernel
theorem dX4_init_83 : decode cX4_init 83 = .ok (.bipush 17, 2) := by decide +kernel
theorem dX4_init_85 : decode cX4_init 85 = .ok (.newarray .int, 2) := by decide +kernel
theorem dX4_init_87 : decode cX4_init 87 = .ok (.putfield 40, 3) := by decide +kernel
theorem dX4_init_90 : decode cX4_init 90 = .ok (.aload_n 0, 1) := by decide +kernel
theorem dX4_init_91 : decode cX4_init 91 = .ok (.bipush 17, 2) := by decide +kernel
theorem dX4_init_93 : decode cX4_init 93 = .ok (.newarray .boolean, 2) := by decide +kernel
theorem dX4_init_95 : decode cX4_init 95 = .ok (.putfield 43, 3) := by decide +kernel
theorem dX4_init_98 : decode cX4_init 98 = .ok (.aload_n 0, 1) := by decide +kernel
theorem dX4_init_99 : decode cX4_init 99 = .ok (.iconst 5, 1) := by decide +kernel
theorem dX4_init_100 : decode cX4_init 100 = .ok (.newarray .int, 2) := by decide +kernel
theorem dX4_init_102 : decode cX4_init 102 = .ok (.putfield 47, 3) := by decide +kernel
theorem dX4_init_105 : decode cX4_init 105 = .ok (.aload_n 0, 1) := by decide +kernel
theorem dX4_init_106 : decode cX4_init 106 = .ok (.iconst 5, 1) := by decide +kernel
theorem dX4_init_107 : decode cX4_init 107 = .ok (.newarray .int, 2) := by decide +kernel
theorem dX4_init_109 : decode cX4_init 109 = .ok (.putfield 50, 3) := by decide +kernel
theorem dX4_init_112 : decode cX4_init 112 = .ok (.aload_n 0, 1) := by decide +kernel
theorem dX4_init_113 : decode cX4_init 113 = .ok (.iconst 5, 1) := by decide +kernel
theorem dX4_init_114 : decode cX4_init 114 = .ok (.newarray .int, 2) := by decide +kernel
theorem dX4_init_116 : decode cX4_init 116 = .ok (.putfield 53, 3) := by decide +kernel
theorem dX4_init_119 : decode cX4_init 119 = .ok (.aload_n 0, 1) := by decide +kernel
theorem dX4_init_120 : decode cX4_init 120 = .ok (.bipush 17, 2) := by decide +kernel
theorem dX4_init_122 : decode cX4_init 122 = .ok (.newarray .int, 2) := by decide +kernel
theorem dX4_init_124 : decode cX4_init 124 = .ok (.putfield 56, 3) := by decide +kernel
theorem dX4_init_127 : decode cX4_init 127 = .ok (.iconst 0, 1) := by decide +kernel
theorem dX4_init_128 : decode cX4_init 128 = .ok (.istore_n 1, 1) := by decide +kernel
theorem dX4_init_129 : decode cX4_init 129 = .ok (.iload_n 1, 1) := by decide +kernel
theorem dX4_init_130 : decode cX4_init 130 = .ok (.iconst 3, 1) := by decide +kernel
theorem dX4_init_131 : decode cX4_init 131 = .ok (.if_icmp .ge 17, 3) := by decide +kernel
theorem dX4_init_134 : decode cX4_init 134 = .ok (.aload_n 0, 1) := by decide +kernel
theorem dX4_init_135 : decode cX4_init 135 = .ok (.getfield 16, 3) := by decide +kernel
theorem dX4_init_138 : decode cX4_init 138 = .ok (.iload_n 1, 1) := by decide +kernel
theorem dX4_init_139 : decode cX4_init 139 = .ok (.bipush 60, 2) := by decide +kernel
theorem dX4_init_141 : decode cX4_init 141 = .ok (.iastore, 1) := by decide +kernel
theorem dX4_init_142 : decode cX4_init 142 = .ok (.iinc 1 1, 3) := by decide +kernel
theorem dX4_init_145 : decode cX4_init 145 = .ok (.goto (-16), 3) := by decide +kernel
theorem dX4_init_148 : decode cX4_init 148 = .ok (.return_, 1) := by decide +kernel
theorem dX4_thrown_0 : decode cX4_thrown 0 = .ok (.aload_n 0, 1) := by decide +kernel
theorem dX4_thrown_1 : decode cX4_thrown 1 = .ok (.getfield 59, 3) := by decide +kernel
theorem dX4_thrown_4 : decode cX4_thrown 4 = .ok (.ireturn, 1) := by decide +kernel
theorem dX4_isIn_0 : decode cX4_isIn 0 = .ok (.iload_n 0, 1) := by decide +kernel
theorem dX4_isIn_1 : decode cX4_isIn 1 = .ok (.iload_n 1, 1) := by decide +kernel
theorem dX4_isIn_2 : decode cX4_isIn 2 = .ok (.if_icmp .lt 12, 3) := by decide +kernel
theorem dX4_isIn_5 : decode cX4_isIn 5 = .ok (.iload_n 0, 1) := by decide +kernel
theorem dX4_isIn_6 : decode cX4_isIn 6 = .ok (.iload_n 2, 1) := by decide +kernel
theorem dX4_isIn_7 : decode cX4_isIn 7 = .ok (.if_icmp .gt 7, 3) := by decide +kernel
theorem dX4_isIn_10 : decode cX4_isIn 10 = .ok (.iconst 1, 1) := by decide +kernel
theorem dX4_isIn_11 : decode cX4_isIn 11 = .ok (.goto 4, 3) := by decide +kernel
theorem dX4_isIn_14 : decode cX4_isIn 14 = .ok (.iconst 0, 1) := by decide +kernel
theorem dX4_isIn_15 : decode cX4_isIn 15 = .ok (.ireturn, 1) := by decide +kernel
theorem dX4_isMinute_0 : decode cX4_isMinute 0 = .ok (.iload_n 0, 1) := by decide +kernel
theorem dX4_isMinute_1 : decode cX4_isMinute 1 = .ok (.iconst 0, 1) := by decide +kernel
theorem dX4_isMinute_2 : decode cX4_isMinute 2 = .ok (.sipush 999, 3) := by decide +kernel
theorem dX4_isMinute_5 : decode cX4_isMinute 5 = .ok (.invokestatic 63, 3) := by decide +kernel
theorem dX4_isMinute_8 : decode cX4_isMinute 8 = .ok (.ireturn, 1) := by decide +kernel
theorem dX4_isThree_0 : decode cX4_isThree 0 = .ok (.iload_n 0, 1) := by decide +kernel
theorem dX4_isThree_1 : decode cX4_isThree 1 = .ok (.iconst 0, 1) := by decide +kernel
theorem dX4_isThree_2 : decode cX4_isThree 2 = .ok (.iconst 2, 1) := by decide +kernel
theorem dX4_isThree_3 : decode cX4_isThree 3 = .ok (.invokestatic 63, 3) := by decide +kernel
theorem dX4_isThree_6 : decode cX4_isThree 6 = .ok (.ireturn, 1) := by decide +kernel
theorem dX4_plays_0 : decode cX4_plays 0 = .ok (.aload_n 0, 1) := by decide +kernel
theorem dX4_plays_1 : decode cX4_plays 1 = .ok (.getfield 43, 3) := by decide +kernel
theorem dX4_plays_4 : decode cX4_plays 4 = .ok (.iload_n 1, 1) := by decide +kernel
theorem dX4_plays_5 : decode cX4_plays 5 = .ok (.baload, 1) := by decide +kernel
theorem dX4_plays_6 : decode cX4_plays 6 = .ok (.ifCond .eq 34, 3) := by decide +kernel
theorem dX4_plays_9 : decode cX4_plays 9 = .ok (.iload_n 2, 1) := by decide +kernel
theorem dX4_plays_10 : decode cX4_plays 10 = .ok (.aload_n 0, 1) := by decide +kernel
theorem dX4_plays_11 : decode cX4_plays 11 = .ok (.getfield 25, 3) := by decide +kernel
theorem dX4_plays_14 : decode cX4_plays 14 = .ok (.iload_n 1, 1) := by decide +kernel
theorem dX4_plays_15 : decode cX4_plays 15 = .ok (.iaload, 1) := by decide +kernel
theorem dX4_plays_16 : decode cX4_plays 16 = .ok (.if_icmp .lt 24, 3) := by decide +kernel
theorem dX4_plays_19 : decode cX4_plays 19 = .ok (.iload_n 2, 1) := by decide +kernel
theorem dX4_plays_20 : decode cX4_plays 20 = .ok (.aload_n 0, 1) := by decide +kernel
theorem dX4_plays_21 : decode cX4_plays 21 = .ok (.getfield 25, 3) := by decide +kernel
theorem dX4_plays_24 : decode cX4_plays 24 = .ok (.iload_n 1, 1) := by decide +kernel
theorem dX4_plays_25 : decode cX4_plays 25 = .ok (.iaload, 1) := by decide +kernel
theorem dX4_plays_26 : decode cX4_plays 26 = .ok (.aload_n 0, 1) := by decide +kernel
theorem dX4_plays_27 : decode cX4_plays 27 = .ok (.getfield 28, 3) := by decide +kernel
theorem dX4_plays_30 : decode cX4_plays 30 = .ok (.iload_n 1, 1) := by decide +kernel
theorem dX4_plays_31 : decode cX4_plays 31 = .ok (.iaload, 1) := by decide +kernel
theorem dX4_plays_32 : decode cX4_plays 32 = .ok (.iadd, 1) := by decide +kernel
theorem dX4_plays_33 : decode cX4_plays 33 = .ok (.if_icmp .ge 7, 3) := by decide +kernel
theorem dX4_plays_36 : decode cX4_plays 36 = .ok (.iconst 1, 1) := by decide +kernel
theorem dX4_plays_37 : decode cX4_plays 37 = .ok (.goto 4, 3) := by decide +kernel
theorem dX4_plays_40 : decode cX4_plays 40 = .ok (.iconst 0, 1) := by decide +kernel
theorem dX4_plays_41 : decode cX4_plays 41 = .ok (.ireturn, 1) := by decide +kernel
theorem dX4_loaded_0 : decode cX4_loaded 0 = .ok (.iconst 0, 1) := by decide +kernel
theorem dX4_loaded_1 : decode cX4_loaded 1 = .ok (.istore_n 3, 1) := by decide +kernel
theorem dX4_loaded_2 : decode cX4_loaded 2 = .ok (.iconst 0, 1) := by decide +kernel
theorem dX4_loaded_3 : decode cX4_loaded 3 = .ok (.istore 4, 2) := by decide +kernel
theorem dX4_loaded_5 : decode cX4_loaded 5 = .ok (.iload 4, 2) := by decide +kernel
theorem dX4_loaded_7 : decode cX4_loaded 7 = .ok (.bipush 17, 2) := by decide +kernel
theorem dX4_loaded_9 : decode cX4_loaded 9 = .ok (.if_icmp .ge 44, 3) := by decide +kernel
theorem dX4_loaded_12 : decode cX4_loaded 12 = .ok (.iload_n 3, 1) := by decide +kernel
theorem dX4_loaded_13 : decode cX4_loaded 13 = .ok (.aload_n 0, 1) := by decide +kernel
theorem dX4_loaded_14 : decode cX4_loaded 14 = .ok (.iload 4, 2) := by decide +kernel
theorem dX4_loaded_16 : decode cX4_loaded 16 = .ok (.iload_n 1, 1) := by decide +kernel
theorem dX4_loaded_17 : decode cX4_loaded 17 = .ok (.invokevirtual 67, 3) := by decide +kernel
theorem dX4_loaded_20 : decode cX4_loaded 20 = .ok (.ifCond .eq 24, 3) := by decide +kernel
theorem dX4_loaded_23 : decode cX4_loaded 23 = .ok (.aload_n 0, 1) := by decide +kernel
theorem dX4_loaded_24 : decode cX4_loaded 24 = .ok (.getfield 31, 3) := by decide +kernel
theorem dX4_loaded_27 : decode cX4_loaded 27 = .ok (.iload 4, 2) := by decide +kernel
theorem dX4_loaded_29 : decode cX4_loaded 29 = .ok (.iaload, 1) := by decide +kernel
theorem dX4_loaded_30 : decode cX4_loaded 30 = .ok (.iload_n 2, 1) := by decide +kernel
theorem dX4_loaded_31 : decode cX4_loaded 31 = .ok (.if_icmp .ne 13, 3) := by decide +kernel
theorem dX4_loaded_34 : decode cX4_loaded 34 = .ok (.aload_n 0, 1) := by decide +kernel
theorem dX4_loaded_35 : decode cX4_loaded 35 = .ok (.getfield 34, 3) := by decide +kernel
theorem dX4_loaded_38 : decode cX4_loaded 38 = .ok (.iload 4, 2) := by decide +kernel
theorem dX4_loaded_40 : decode cX4_loaded 40 = .ok (.iaload, 1) := by decide +kernel
theorem dX4_loaded_41 : decode cX4_loaded 41 = .ok (.goto 4, 3) := by decide +kernel
theorem dX4_loaded_44 : decode cX4_loaded 44 = .ok (.iconst 0, 1) := by decide +kernel
theorem dX4_loaded_45 : decode cX4_loaded 45 = .ok (.iadd, 1) := by decide +kernel
theorem dX4_loaded_46 : decode cX4_loaded 46 = .ok (.istore_n 3, 1) := by decide +kernel
theorem dX4_loaded_47 : decode cX4_loaded 47 = .ok (.iinc 4 1, 3) := by decide +kernel
theorem dX4_loaded_50 : decode cX4_loaded 50 = .ok (.goto (-45), 3) := by decide +kernel
theorem dX4_loaded_53 : decode cX4_loaded 53 = .ok (.iload_n 3, 1) := by decide +kernel
theorem dX4_loaded_54 : decode cX4_loaded 54 = .ok (.ireturn, 1) := by decide +kernel
theorem dX4_noisy_0 : decode cX4_noisy 0 = .ok (.iconst 0, 1) := by decide +kernel
theorem dX4_noisy_1 : decode cX4_noisy 1 = .ok (.istore_n 3, 1) := by decide +kernel
theorem dX4_noisy_2 : decode cX4_noisy 2 = .ok (.iconst 0, 1) := by decide +kernel
theorem dX4_noisy_3 : decode cX4_noisy 3 = .ok (.istore 4, 2) := by decide +kernel
theorem dX4_noisy_5 : decode cX4_noisy 5 = .ok (.iload 4, 2) := by decide +kernel
theorem dX4_noisy_7 : decode cX4_noisy 7 = .ok (.bipush 17, 2) := by decide +kernel
theorem dX4_noisy_9 : decode cX4_noisy 9 = .ok (.if_icmp .ge 95, 3) := by decide +kernel
theorem dX4_noisy_12 : decode cX4_noisy 12 = .ok (.aload_n 0, 1) := by decide +kernel
theorem dX4_noisy_13 : decode cX4_noisy 13 = .ok (.getfield 22, 3) := by decide +kernel
theorem dX4_noisy_16 : decode cX4_noisy 16 = .ok (.iload 4, 2) := by decide +kernel
theorem dX4_noisy_18 : decode cX4_noisy 18 = .ok (.iaload, 1) := by decide +kernel
theorem dX4_noisy_19 : decode cX4_noisy 19 = .ok (.iload_n 2, 1) := by decide +kernel
theorem dX4_noisy_20 : decode cX4_noisy 20 = .ok (.if_icmp .ge 15, 3) := by decide +kernel
theorem dX4_noisy_23 : decode cX4_noisy 23 = .ok (.iload_n 2, 1) := by decide +kernel
theorem dX4_noisy_24 : decode cX4_noisy 24 = .ok (.aload_n 0, 1) := by decide +kernel
theorem dX4_noisy_25 : decode cX4_noisy 25 = .ok (.getfield 22, 3) := by decide +kernel
theorem dX4_noisy_28 : decode cX4_noisy 28 = .ok (.iload 4, 2) := by decide +kernel
theorem dX4_noisy_30 : decode cX4_noisy 30 = .ok (.iaload, 1) := by decide +kernel
theorem dX4_noisy_31 : decode cX4_noisy 31 = .ok (.isub, 1) := by decide +kernel
theorem dX4_noisy_32 : decode cX4_noisy 32 = .ok (.goto 12, 3) := by decide +kernel
theorem dX4_noisy_35 : decode cX4_noisy 35 = .ok (.aload_n 0, 1) := by decide +kernel
theorem dX4_noisy_36 : decode cX4_noisy 36 = .ok (.getfield 22, 3) := by decide +kernel
theorem dX4_noisy_39 : decode cX4_noisy 39 = .ok (.iload 4, 2) := by decide +kernel
theorem dX4_noisy_41 : decode cX4_noisy 41 = .ok (.iaload, 1) := by decide +kernel
theorem dX4_noisy_42 : decode cX4_noisy 42 = .ok (.iload_n 2, 1) := by decide +kernel
theorem dX4_noisy_43 : decode cX4_noisy 43 = .ok (.isub, 1) := by decide +kernel
theorem dX4_noisy_44 : decode cX4_noisy 44 = .ok (.istore 5, 2) := by decide +kernel
theorem dX4_noisy_46 : decode cX4_noisy 46 = .ok (.aload_n 0, 1) := by decide +kernel
theorem dX4_noisy_47 : decode cX4_noisy 47 = .ok (.getfield 37, 3) := by decide +kernel
theorem dX4_noisy_50 : decode cX4_noisy 50 = .ok (.iload 4, 2) := by decide +kernel
theorem dX4_noisy_52 : decode cX4_noisy 52 = .ok (.iaload, 1) := by decide +kernel
theorem dX4_noisy_53 : decode cX4_noisy 53 = .ok (.bipush 10, 2) := by decide +kernel
theorem dX4_noisy_55 : decode cX4_noisy 55 = .ok (.isub, 1) := by decide +kernel
theorem dX4_noisy_56 : decode cX4_noisy 56 = .ok (.bipush 10, 2) := by decide +kernel
theorem dX4_noisy_58 : decode cX4_noisy 58 = .ok (.iload 5, 2) := by decide +kernel
theorem dX4_noisy_60 : decode cX4_noisy 60 = .ok (.imul, 1) := by decide +kernel
theorem dX4_noisy_61 : decode cX4_noisy 61 = .ok (.isub, 1) := by decide +kernel
theorem dX4_noisy_62 : decode cX4_noisy 62 = .ok (.aload_n 0, 1) := by decide +kernel
theorem dX4_noisy_63 : decode cX4_noisy 63 = .ok (.getfield 19, 3) := by decide +kernel
theorem dX4_noisy_66 : decode cX4_noisy 66 = .ok (.iload_n 1, 1) := by decide +kernel
theorem dX4_noisy_67 : decode cX4_noisy 67 = .ok (.bipush 60, 2) := by decide +kernel
theorem dX4_noisy_69 : decode cX4_noisy 69 = .ok (.idiv, 1) := by decide +kernel
theorem dX4_noisy_70 : decode cX4_noisy 70 = .ok (.iaload, 1) := by decide +kernel
theorem dX4_noisy_71 : decode cX4_noisy 71 = .ok (.isub, 1) := by decide +kernel
theorem dX4_noisy_72 : decode cX4_noisy 72 = .ok (.istore 6, 2) := by decide +kernel
theorem dX4_noisy_74 : decode cX4_noisy 74 = .ok (.iload_n 3, 1) := by decide +kernel
theorem dX4_noisy_75 : decode cX4_noisy 75 = .ok (.aload_n 0, 1) := by decide +kernel
theorem dX4_noisy_76 : decode cX4_noisy 76 = .ok (.iload 4, 2) := by decide +kernel
theorem dX4_noisy_78 : decode cX4_noisy 78 = .ok (.iload_n 1, 1) := by decide +kernel
theorem dX4_noisy_79 : decode cX4_noisy 79 = .ok (.invokevirtual 67, 3) := by decide +kernel
theorem dX4_noisy_82 : decode cX4_noisy 82 = .ok (.ifCond .eq 13, 3) := by decide +kernel
theorem dX4_noisy_85 : decode cX4_noisy 85 = .ok (.iload 6, 2) := by decide +kernel
theorem dX4_noisy_87 : decode cX4_noisy 87 = .ok (.ifCond .le 8, 3) := by decide +kernel
theorem dX4_noisy_90 : decode cX4_noisy 90 = .ok (.iload 6, 2) := by decide +kernel
theorem dX4_noisy_92 : decode cX4_noisy 92 = .ok (.goto 4, 3) := by decide +kernel
theorem dX4_noisy_95 : decode cX4_noisy 95 = .ok (.iconst 0, 1) := by decide +kernel
theorem dX4_noisy_96 : decode cX4_noisy 96 = .ok (.iadd, 1) := by decide +kernel
theorem dX4_noisy_97 : decode cX4_noisy 97 = .ok (.istore_n 3, 1) := by decide +kernel
theorem dX4_noisy_98 : decode cX4_noisy 98 = .ok (.iinc 4 1, 3) := by decide +kernel
theorem dX4_noisy_101 : decode cX4_noisy 101 = .ok (.goto (-96), 3) := by decide +kernel
theorem dX4_noisy_104 : decode cX4_noisy 104 = .ok (.iload_n 3, 1) := by decide +kernel
theorem dX4_noisy_105 : decode cX4_noisy 105 = .ok (.ireturn, 1) := by decide +kernel
theorem dX4_isPlaced_0 : decode cX4_isPlaced 0 = .ok (.iconst 1, 1) := by decide +kernel
theorem dX4_isPlaced_1 : decode cX4_isPlaced 1 = .ok (.istore_n 1, 1) := by decide +kernel
theorem dX4_isPlaced_2 : decode cX4_isPlaced 2 = .ok (.iconst 0, 1) := by decide +kernel
theorem dX4_isPlaced_3 : decode cX4_isPlaced 3 = .ok (.istore_n 2, 1) := by decide +kernel
theorem dX4_isPlaced_4 : decode cX4_isPlaced 4 = .ok (.iload_n 2, 1) := by decide +kernel
theorem dX4_isPlaced_5 : decode cX4_isPlaced 5 = .ok (.bipush 17, 2) := by decide +kernel
theorem dX4_isPlaced_7 : decode cX4_isPlaced 7 = .ok (.if_icmp .ge 251, 3) := by decide +kernel
theorem dX4_isPlaced_10 : decode cX4_isPlaced 10 = .ok (.iload_n 1, 1) := by decide +kernel
theorem dX4_isPlaced_11 : decode cX4_isPlaced 11 = .ok (.aload_n 0, 1) := by decide +kernel
theorem dX4_isPlaced_12 : decode cX4_isPlaced 12 = .ok (.getfield 43, 3) := by decide +kernel
theorem dX4_isPlaced_15 : decode cX4_isPlaced 15 = .ok (.iload_n 2, 1) := by decide +kernel
theorem dX4_isPlaced_16 : decode cX4_isPlaced 16 = .ok (.baload, 1) := by decide +kernel
theorem dX4_isPlaced_17 : decode cX4_isPlaced 17 = .ok (.ifCond .eq 22, 3) := by decide +kernel
theorem dX4_isPlaced_20 : decode cX4_isPlaced 20 = .ok (.aload_n 0, 1) := by decide +kernel
theorem dX4_isPlaced_21 : decode cX4_isPlaced 21 = .ok (.getfield 25, 3) := by decide +kernel
theorem dX4_isPlaced_24 : decode cX4_isPlaced 24 = .ok (.iload_n 2, 1) := by decide +kernel
theorem dX4_isPlaced_25 : decode cX4_isPlaced 25 = .ok (.iaload, 1) := by decide +kernel
theorem dX4_isPlaced_26 : decode cX4_isPlaced 26 = .ok (.aload_n 0, 1) := by decide +kernel
theorem dX4_isPlaced_27 : decode cX4_isPlaced 27 = .ok (.getfield 28, 3) := by decide +kernel
theorem dX4_isPlaced_30 : decode cX4_isPlaced 30 = .ok (.iload_n 2, 1) := by decide +kernel
theorem dX4_isPlaced_31 : decode cX4_isPlaced 31 = .ok (.iaload, 1) := by decide +kernel
theorem dX4_isPlaced_32 : decode cX4_isPlaced 32 = .ok (.iadd, 1) := by decide +kernel
theorem dX4_isPlaced_33 : decode cX4_isPlaced 33 = .ok (.sipush 1000, 3) := by decide +kernel
theorem dX4_isPlaced_36 : decode cX4_isPlaced 36 = .ok (.if_icmp .gt 7, 3) := by decide +kernel
theorem dX4_isPlaced_39 : decode cX4_isPlaced 39 = .ok (.iconst 1, 1) := by decide +kernel
theorem dX4_isPlaced_40 : decode cX4_isPlaced 40 = .ok (.goto 4, 3) := by decide +kernel
theorem dX4_isPlaced_43 : decode cX4_isPlaced 43 = .ok (.iconst 0, 1) := by decide +kernel
theorem dX4_isPlaced_44 : decode cX4_isPlaced 44 = .ok (.iand, 1) := by decide +kernel
theorem dX4_isPlaced_45 : decode cX4_isPlaced 45 = .ok (.istore_n 1, 1) := by decide +kernel
theorem dX4_isPlaced_46 : decode cX4_isPlaced 46 = .ok (.iconst 0, 1) := by decide +kernel
theorem dX4_isPlaced_47 : decode cX4_isPlaced 47 = .ok (.istore_n 3, 1) := by decide +kernel
theorem dX4_isPlaced_48 : decode cX4_isPlaced 48 = .ok (.iload_n 3, 1) := by decide +kernel
theorem dX4_isPlaced_49 : decode cX4_isPlaced 49 = .ok (.bipush 17, 2) := by decide +kernel
theorem dX4_isPlaced_51 : decode cX4_isPlaced 51 = .ok (.if_icmp .ge 116, 3) := by decide +kernel
theorem dX4_isPlaced_54 : decode cX4_isPlaced 54 = .ok (.iload_n 3, 1) := by decide +kernel
theorem dX4_isPlaced_55 : decode cX4_isPlaced 55 = .ok (.iload_n 2, 1) := by decide +kernel
theorem dX4_isPlaced_56 : decode cX4_isPlaced 56 = .ok (.if_icmp .eq 55, 3) := by decide +kernel
theorem dX4_isPlaced_59 : decode cX4_isPlaced 59 = .ok (.aload_n 0, 1) := by decide +kernel
theorem dX4_isPlaced_60 : decode cX4_isPlaced 60 = .ok (.getfield 43, 3) := by decide +kernel
theorem dX4_isPlaced_63 : decode cX4_isPlaced 63 = .ok (.iload_n 2, 1) := by decide +kernel
theorem dX4_isPlaced_64 : decode cX4_isPlaced 64 = .ok (.baload, 1) := by decide +kernel
theorem dX4_isPlaced_65 : decode cX4_isPlaced 65 = .ok (.ifCond .eq 46, 3) := by decide +kernel
theorem dX4_isPlaced_68 : decode cX4_isPlaced 68 = .ok (.aload_n 0, 1) := by decide +kernel
theorem dX4_isPlaced_69 : decode cX4_isPlaced 69 = .ok (.getfield 43, 3) := by decide +kernel
theorem dX4_isPlaced_72 : decode cX4_isPlaced 72 = .ok (.iload_n 3, 1) := by decide +kernel
theorem dX4_isPlaced_73 : decode cX4_isPlaced 73 = .ok (.baload, 1) := by decide +kernel
theorem dX4_isPlaced_74 : decode cX4_isPlaced 74 = .ok (.ifCond .eq 37, 3) := by decide +kernel
theorem dX4_isPlaced_77 : decode cX4_isPlaced 77 = .ok (.aload_n 0, 1) := by decide +kernel
theorem dX4_isPlaced_78 : decode cX4_isPlaced 78 = .ok (.getfield 22, 3) := by decide +kernel
theorem dX4_isPlaced_81 : decode cX4_isPlaced 81 = .ok (.iload_n 3, 1) := by decide +kernel
theorem dX4_isPlaced_82 : decode cX4_isPlaced 82 = .ok (.iaload, 1) := by decide +kernel
theorem dX4_isPlaced_83 : decode cX4_isPlaced 83 = .ok (.aload_n 0, 1) := by decide +kernel
theorem dX4_isPlaced_84 : decode cX4_isPlaced 84 = .ok (.getfield 22, 3) := by decide +kernel
theorem dX4_isPlaced_87 : decode cX4_isPlaced 87 = .ok (.iload_n 2, 1) := by decide +kernel
theorem dX4_isPlaced_88 : decode cX4_isPlaced 88 = .ok (.iaload, 1) := by decide +kernel
theorem dX4_isPlaced_89 : decode cX4_isPlaced 89 = .ok (.if_icmp .ne 22, 3) := by decide +kernel
theorem dX4_isPlaced_92 : decode cX4_isPlaced 92 = .ok (.aload_n 0, 1) := by decide +kernel
theorem dX4_isPlaced_93 : decode cX4_isPlaced 93 = .ok (.getfield 25, 3) := by decide +kernel
theorem dX4_isPlaced_96 : decode cX4_isPlaced 96 = .ok (.iload_n 3, 1) := by decide +kernel
theorem dX4_isPlaced_97 : decode cX4_isPlaced 97 = .ok (.iaload, 1) := by decide +kernel
theorem dX4_isPlaced_98 : decode cX4_isPlaced 98 = .ok (.aload_n 0, 1) := by decide +kernel
theorem dX4_isPlaced_99 : decode cX4_isPlaced 99 = .ok (.getfield 25, 3) := by decide +kernel
theorem dX4_isPlaced_102 : decode cX4_isPlaced 102 = .ok (.iload_n 2, 1) := by decide +kernel
theorem dX4_isPlaced_103 : decode cX4_isPlaced 103 = .ok (.iaload, 1) := by decide +kernel
theorem dX4_isPlaced_104 : decode cX4_isPlaced 104 = .ok (.if_icmp .lt 7, 3) := by decide +kernel
theorem dX4_isPlaced_107 : decode cX4_isPlaced 107 = .ok (.iconst 1, 1) := by decide +kernel
theorem dX4_isPlaced_108 : decode cX4_isPlaced 108 = .ok (.goto 4, 3) := by decide +kernel
theorem dX4_isPlaced_111 : decode cX4_isPlaced 111 = .ok (.iconst 0, 1) := by decide +kernel
theorem dX4_isPlaced_112 : decode cX4_isPlaced 112 = .ok (.istore 4, 2) := by decide +kernel
theorem dX4_isPlaced_114 : decode cX4_isPlaced 114 = .ok (.iload_n 1, 1) := by decide +kernel
theorem dX4_isPlaced_115 : decode cX4_isPlaced 115 = .ok (.iload 4, 2) := by decide +kernel
theorem dX4_isPlaced_117 : decode cX4_isPlaced 117 = .ok (.ifCond .eq 37, 3) := by decide +kernel
theorem dX4_isPlaced_120 : decode cX4_isPlaced 120 = .ok (.aload_n 0, 1) := by decide +kernel
theorem dX4_isPlaced_121 : decode cX4_isPlaced 121 = .ok (.getfield 25, 3) := by decide +kernel
theorem dX4_isPlaced_124 : decode cX4_isPlaced 124 = .ok (.iload_n 3, 1) := by decide +kernel
theorem dX4_isPlaced_125 : decode cX4_isPlaced 125 = .ok (.iaload, 1) := by decide +kernel
theorem dX4_isPlaced_126 : decode cX4_isPlaced 126 = .ok (.aload_n 0, 1) := by decide +kernel
theorem dX4_isPlaced_127 : decode cX4_isPlaced 127 = .ok (.getfield 25, 3) := by decide +kernel
theorem dX4_isPlaced_130 : decode cX4_isPlaced 130 = .ok (.iload_n 2, 1) := by decide +kernel
theorem dX4_isPlaced_131 : decode cX4_isPlaced 131 = .ok (.iaload, 1) := by decide +kernel
theorem dX4_isPlaced_132 : decode cX4_isPlaced 132 = .ok (.aload_n 0, 1) := by decide +kernel
theorem dX4_isPlaced_133 : decode cX4_isPlaced 133 = .ok (.getfield 28, 3) := by decide +kernel
theorem dX4_isPlaced_136 : decode cX4_isPlaced 136 = .ok (.iload_n 2, 1) := by decide +kernel
theorem dX4_isPlaced_137 : decode cX4_isPlaced 137 = .ok (.iaload, 1) := by decide +kernel
theorem dX4_isPlaced_138 : decode cX4_isPlaced 138 = .ok (.iadd, 1) := by decide +kernel
theorem dX4_isPlaced_139 : decode cX4_isPlaced 139 = .ok (.aload_n 0, 1) := by decide +kernel
theorem dX4_isPlaced_140 : decode cX4_isPlaced 140 = .ok (.getfield 13, 3) := by decide +kernel
theorem dX4_isPlaced_143 : decode cX4_isPlaced 143 = .ok (.aload_n 0, 1) := by decide +kernel
theorem dX4_isPlaced_144 : decode cX4_isPlaced 144 = .ok (.getfield 22, 3) := by decide +kernel
theorem dX4_isPlaced_147 : decode cX4_isPlaced 147 = .ok (.iload_n 2, 1) := by decide +kernel
theorem dX4_isPlaced_148 : decode cX4_isPlaced 148 = .ok (.iaload, 1) := by decide +kernel
theorem dX4_isPlaced_149 : decode cX4_isPlaced 149 = .ok (.iaload, 1) := by decide +kernel
theorem dX4_isPlaced_150 : decode cX4_isPlaced 150 = .ok (.iadd, 1) := by decide +kernel
theorem dX4_isPlaced_151 : decode cX4_isPlaced 151 = .ok (.if_icmp .lt 7, 3) := by decide +kernel
theorem dX4_isPlaced_154 : decode cX4_isPlaced 154 = .ok (.iconst 1, 1) := by decide +kernel
theorem dX4_isPlaced_155 : decode cX4_isPlaced 155 = .ok (.goto 4, 3) := by decide +kernel
theorem dX4_isPlaced_158 : decode cX4_isPlaced 158 = .ok (.iconst 0, 1) := by decide +kernel
theorem dX4_isPlaced_159 : decode cX4_isPlaced 159 = .ok (.iand, 1) := by decide +kernel
theorem dX4_isPlaced_160 : decode cX4_isPlaced 160 = .ok (.istore_n 1, 1) := by decide +kernel
theorem dX4_isPlaced_161 : decode cX4_isPlaced 161 = .ok (.iinc 3 1, 3) := by decide +kernel
theorem dX4_isPlaced_164 : decode cX4_isPlaced 164 = .ok (.goto (-116), 3) := by decide +kernel
theorem dX4_isPlaced_167 : decode cX4_isPlaced 167 = .ok (.iconst 0, 1) := by decide +kernel
theorem dX4_isPlaced_168 : decode cX4_isPlaced 168 = .ok (.istore_n 3, 1) := by decide +kernel
theorem dX4_isPlaced_169 : decode cX4_isPlaced 169 = .ok (.iload_n 3, 1) := by decide +kernel
theorem dX4_isPlaced_170 : decode cX4_isPlaced 170 = .ok (.aload_n 0, 1) := by decide +kernel
theorem dX4_isPlaced_171 : decode cX4_isPlaced 171 = .ok (.getfield 71, 3) := by decide +kernel
theorem dX4_isPlaced_174 : decode cX4_isPlaced 174 = .ok (.if_icmp .ge 78, 3) := by decide +kernel
theorem dX4_isPlaced_177 : decode cX4_isPlaced 177 = .ok (.iload_n 1, 1) := by decide +kernel
theorem dX4_isPlaced_178 : decode cX4_isPlaced 178 = .ok (.aload_n 0, 1) := by decide +kernel
theorem dX4_isPlaced_179 : decode cX4_isPlaced 179 = .ok (.getfield 43, 3) := by decide +kernel
theorem dX4_isPlaced_182 : decode cX4_isPlaced 182 = .ok (.iload_n 2, 1) := by decide +kernel
theorem dX4_isPlaced_183 : decode cX4_isPlaced 183 = .ok (.baload, 1) := by decide +kernel
theorem dX4_isPlaced_184 : decode cX4_isPlaced 184 = .ok (.ifCond .eq 55, 3) := by decide +kernel
theorem dX4_isPlaced_187 : decode cX4_isPlaced 187 = .ok (.aload_n 0, 1) := by decide +kernel
theorem dX4_isPlaced_188 : decode cX4_isPlaced 188 = .ok (.getfield 47, 3) := by decide +kernel
theorem dX4_isPlaced_191 : decode cX4_isPlaced 191 = .ok (.iload_n 3, 1) := by decide +kernel
theorem dX4_isPlaced_192 : decode cX4_isPlaced 192 = .ok (.iaload, 1) := by decide +kernel
theorem dX4_isPlaced_193 : decode cX4_isPlaced 193 = .ok (.aload_n 0, 1) := by decide +kernel
theorem dX4_isPlaced_194 : decode cX4_isPlaced 194 = .ok (.getfield 22, 3) := by decide +kernel
theorem dX4_isPlaced_197 : decode cX4_isPlaced 197 = .ok (.iload_n 2, 1) := by decide +kernel
theorem dX4_isPlaced_198 : decode cX4_isPlaced 198 = .ok (.iaload, 1) := by decide +kernel
theorem dX4_isPlaced_199 : decode cX4_isPlaced 199 = .ok (.if_icmp .ne 40, 3) := by decide +kernel
theorem dX4_isPlaced_202 : decode cX4_isPlaced 202 = .ok (.aload_n 0, 1) := by decide +kernel
theorem dX4_isPlaced_203 : decode cX4_isPlaced 203 = .ok (.getfield 25, 3) := by decide +kernel
theorem dX4_isPlaced_206 : decode cX4_isPlaced 206 = .ok (.iload_n 2, 1) := by decide +kernel
theorem dX4_isPlaced_207 : decode cX4_isPlaced 207 = .ok (.iaload, 1) := by decide +kernel
theorem dX4_isPlaced_208 : decode cX4_isPlaced 208 = .ok (.aload_n 0, 1) := by decide +kernel
theorem dX4_isPlaced_209 : decode cX4_isPlaced 209 = .ok (.getfield 53, 3) := by decide +kernel
theorem dX4_isPlaced_212 : decode cX4_isPlaced 212 = .ok (.iload_n 3, 1) := by decide +kernel
theorem dX4_isPlaced_213 : decode cX4_isPlaced 213 = .ok (.iaload, 1) := by decide +kernel
theorem dX4_isPlaced_214 : decode cX4_isPlaced 214 = .ok (.if_icmp .ge 25, 3) := by decide +kernel
theorem dX4_isPlaced_217 : decode cX4_isPlaced 217 = .ok (.aload_n 0, 1) := by decide +kernel
theorem dX4_isPlaced_218 : decode cX4_isPlaced 218 = .ok (.getfield 25, 3) := by decide +kernel
theorem dX4_isPlaced_221 : decode cX4_isPlaced 221 = .ok (.iload_n 2, 1) := by decide +kernel
theorem dX4_isPlaced_222 : decode cX4_isPlaced 222 = .ok (.iaload, 1) := by decide +kernel
theorem dX4_isPlaced_223 : decode cX4_isPlaced 223 = .ok (.aload_n 0, 1) := by decide +kernel
theorem dX4_isPlaced_224 : decode cX4_isPlaced 224 = .ok (.getfield 28, 3) := by decide +kernel
theorem dX4_isPlaced_227 : decode cX4_isPlaced 227 = .ok (.iload_n 2, 1) := by decide +kernel
theorem dX4_isPlaced_228 : decode cX4_isPlaced 228 = .ok (.iaload, 1) := by decide +kernel
theorem dX4_isPlaced_229 : decode cX4_isPlaced 229 = .ok (.iadd, 1) := by decide +kernel
theorem dX4_isPlaced_230 : decode cX4_isPlaced 230 = .ok (.aload_n 0, 1) := by decide +kernel
theorem dX4_isPlaced_231 : decode cX4_isPlaced 231 = .ok (.getfield 50, 3) := by decide +kernel
theorem dX4_isPlaced_234 : decode cX4_isPlaced 234 = .ok (.iload_n 3, 1) := by decide +kernel
theorem dX4_isPlaced_235 : decode cX4_isPlaced 235 = .ok (.iaload, 1) := by decide +kernel
theorem dX4_isPlaced_236 : decode cX4_isPlaced 236 = .ok (.if_icmp .gt 7, 3) := by decide +kernel
theorem dX4_isPlaced_239 : decode cX4_isPlaced 239 = .ok (.iconst 1, 1) := by decide +kernel
theorem dX4_isPlaced_240 : decode cX4_isPlaced 240 = .ok (.goto 4, 3) := by decide +kernel
theorem dX4_isPlaced_243 : decode cX4_isPlaced 243 = .ok (.iconst 0, 1) := by decide +kernel
theorem dX4_isPlaced_244 : decode cX4_isPlaced 244 = .ok (.iand, 1) := by decide +kernel
theorem dX4_isPlaced_245 : decode cX4_isPlaced 245 = .ok (.istore_n 1, 1) := by decide +kernel
theorem dX4_isPlaced_246 : decode cX4_isPlaced 246 = .ok (.iinc 3 1, 3) := by decide +kernel
theorem dX4_isPlaced_249 : decode cX4_isPlaced 249 = .ok (.goto (-80), 3) := by decide +kernel
theorem dX4_isPlaced_252 : decode cX4_isPlaced 252 = .ok (.iinc 2 1, 3) := by decide +kernel
theorem dX4_isPlaced_255 : decode cX4_isPlaced 255 = .ok (.goto (-251), 3) := by decide +kernel
theorem dX4_isPlaced_258 : decode cX4_isPlaced 258 = .ok (.iload_n 1, 1) := by decide +kernel
theorem dX4_isPlaced_259 : decode cX4_isPlaced 259 = .ok (.ireturn, 1) := by decide +kernel
theorem dX4_isFed_0 : decode cX4_isFed 0 = .ok (.iconst 0, 1) := by decide +kernel
theorem dX4_isFed_1 : decode cX4_isFed 1 = .ok (.istore_n 2, 1) := by decide +kernel
theorem dX4_isFed_2 : decode cX4_isFed 2 = .ok (.iconst 0, 1) := by decide +kernel
theorem dX4_isFed_3 : decode cX4_isFed 3 = .ok (.istore_n 3, 1) := by decide +kernel
theorem dX4_isFed_4 : decode cX4_isFed 4 = .ok (.iload_n 3, 1) := by decide +kernel
theorem dX4_isFed_5 : decode cX4_isFed 5 = .ok (.aload_n 0, 1) := by decide +kernel
theorem dX4_isFed_6 : decode cX4_isFed 6 = .ok (.getfield 74, 3) := by decide +kernel
theorem dX4_isFed_9 : decode cX4_isFed 9 = .ok (.if_icmp .ge 27, 3) := by decide +kernel
theorem dX4_isFed_12 : decode cX4_isFed 12 = .ok (.iload_n 2, 1) := by decide +kernel
theorem dX4_isFed_13 : decode cX4_isFed 13 = .ok (.aload_n 0, 1) := by decide +kernel
theorem dX4_isFed_14 : decode cX4_isFed 14 = .ok (.getfield 7, 3) := by decide +kernel
theorem dX4_isFed_17 : decode cX4_isFed 17 = .ok (.iload_n 3, 1) := by decide +kernel
theorem dX4_isFed_18 : decode cX4_isFed 18 = .ok (.iaload, 1) := by decide +kernel
theorem dX4_isFed_19 : decode cX4_isFed 19 = .ok (.iload_n 1, 1) := by decide +kernel
theorem dX4_isFed_20 : decode cX4_isFed 20 = .ok (.if_icmp .gt 7, 3) := by decide +kernel
theorem dX4_isFed_23 : decode cX4_isFed 23 = .ok (.iconst 1, 1) := by decide +kernel
theorem dX4_isFed_24 : decode cX4_isFed 24 = .ok (.goto 4, 3) := by decide +kernel
theorem dX4_isFed_27 : decode cX4_isFed 27 = .ok (.iconst 0, 1) := by decide +kernel
theorem dX4_isFed_28 : decode cX4_isFed 28 = .ok (.iadd, 1) := by decide +kernel
theorem dX4_isFed_29 : decode cX4_isFed 29 = .ok (.istore_n 2, 1) := by decide +kernel
theorem dX4_isFed_30 : decode cX4_isFed 30 = .ok (.iinc 3 1, 3) := by decide +kernel
theorem dX4_isFed_33 : decode cX4_isFed 33 = .ok (.goto (-29), 3) := by decide +kernel
theorem dX4_isFed_36 : decode cX4_isFed 36 = .ok (.iconst 1, 1) := by decide +kernel
theorem dX4_isFed_37 : decode cX4_isFed 37 = .ok (.istore_n 3, 1) := by decide +kernel
theorem dX4_isFed_38 : decode cX4_isFed 38 = .ok (.iconst 0, 1) := by decide +kernel
theorem dX4_isFed_39 : decode cX4_isFed 39 = .ok (.istore 4, 2) := by decide +kernel
theorem dX4_isFed_41 : decode cX4_isFed 41 = .ok (.iload 4, 2) := by decide +kernel
theorem dX4_isFed_43 : decode cX4_isFed 43 = .ok (.iconst 3, 1) := by decide +kernel
theorem dX4_isFed_44 : decode cX4_isFed 44 = .ok (.if_icmp .ge 31, 3) := by decide +kernel
theorem dX4_isFed_47 : decode cX4_isFed 47 = .ok (.iload_n 3, 1) := by decide +kernel
theorem dX4_isFed_48 : decode cX4_isFed 48 = .ok (.aload_n 0, 1) := by decide +kernel
theorem dX4_isFed_49 : decode cX4_isFed 49 = .ok (.iload_n 1, 1) := by decide +kernel
theorem dX4_isFed_50 : decode cX4_isFed 50 = .ok (.iload 4, 2) := by decide +kernel
theorem dX4_isFed_52 : decode cX4_isFed 52 = .ok (.invokevirtual 77, 3) := by decide +kernel
theorem dX4_isFed_55 : decode cX4_isFed 55 = .ok (.bipush 100, 2) := by decide +kernel
theorem dX4_isFed_57 : decode cX4_isFed 57 = .ok (.iload_n 2, 1) := by decide +kernel
theorem dX4_isFed_58 : decode cX4_isFed 58 = .ok (.imul, 1) := by decide +kernel
theorem dX4_isFed_59 : decode cX4_isFed 59 = .ok (.if_icmp .gt 7, 3) := by decide +kernel
theorem dX4_isFed_62 : decode cX4_isFed 62 = .ok (.iconst 1, 1) := by decide +kernel
theorem dX4_isFed_63 : decode cX4_isFed 63 = .ok (.goto 4, 3) := by decide +kernel
theorem dX4_isFed_66 : decode cX4_isFed 66 = .ok (.iconst 0, 1) := by decide +kernel
theorem dX4_isFed_67 : decode cX4_isFed 67 = .ok (.iand, 1) := by decide +kernel
theorem dX4_isFed_68 : decode cX4_isFed 68 = .ok (.istore_n 3, 1) := by decide +kernel
theorem dX4_isFed_69 : decode cX4_isFed 69 = .ok (.iinc 4 1, 3) := by decide +kernel
theorem dX4_isFed_72 : decode cX4_isFed 72 = .ok (.goto (-31), 3) := by decide +kernel
theorem dX4_isFed_75 : decode cX4_isFed 75 = .ok (.iload_n 3, 1) := by decide +kernel
theorem dX4_isFed_76 : decode cX4_isFed 76 = .ok (.ireturn, 1) := by decide +kernel
theorem dX4_speaks_0 : decode cX4_speaks 0 = .ok (.aload_n 0, 1) := by decide +kernel
theorem dX4_speaks_1 : decode cX4_speaks 1 = .ok (.iload_n 1, 1) := by decide +kernel
theorem dX4_speaks_2 : decode cX4_speaks 2 = .ok (.iload_n 2, 1) := by decide +kernel
theorem dX4_speaks_3 : decode cX4_speaks 3 = .ok (.invokevirtual 67, 3) := by decide +kernel
theorem dX4_speaks_6 : decode cX4_speaks 6 = .ok (.ifCond .eq 16, 3) := by decide +kernel
theorem dX4_speaks_9 : decode cX4_speaks 9 = .ok (.aload_n 0, 1) := by decide +kernel
theorem dX4_speaks_10 : decode cX4_speaks 10 = .ok (.getfield 40, 3) := by decide +kernel
theorem dX4_speaks_13 : decode cX4_speaks 13 = .ok (.iload_n 1, 1) := by decide +kernel
theorem dX4_speaks_14 : decode cX4_speaks 14 = .ok (.iaload, 1) := by decide +kernel
theorem dX4_speaks_15 : decode cX4_speaks 15 = .ok (.ifCond .lt 7, 3) := by decide +kernel
theorem dX4_speaks_18 : decode cX4_speaks 18 = .ok (.iconst 1, 1) := by decide +kernel
theorem dX4_speaks_19 : decode cX4_speaks 19 = .ok (.goto 4, 3) := by decide +kernel
theorem dX4_speaks_22 : decode cX4_speaks 22 = .ok (.iconst 0, 1) := by decide +kernel
theorem dX4_speaks_23 : decode cX4_speaks 23 = .ok (.ireturn, 1) := by decide +kernel
theorem dX4_isClear_0 : decode cX4_isClear 0 = .ok (.iconst 0, 1) := by decide +kernel
theorem dX4_isClear_1 : decode cX4_isClear 1 = .ok (.istore_n 2, 1) := by decide +kernel
theorem dX4_isClear_2 : decode cX4_isClear 2 = .ok (.iconst 0, 1) := by decide +kernel
theorem dX4_isClear_3 : decode cX4_isClear 3 = .ok (.istore_n 3, 1) := by decide +kernel
theorem dX4_isClear_4 : decode cX4_isClear 4 = .ok (.iload_n 3, 1) := by decide +kernel
theorem dX4_isClear_5 : decode cX4_isClear 5 = .ok (.bipush 17, 2) := by decide +kernel
theorem dX4_isClear_7 : decode cX4_isClear 7 = .ok (.if_icmp .ge 33, 3) := by decide +kernel
theorem dX4_isClear_10 : decode cX4_isClear 10 = .ok (.aload_n 0, 1) := by decide +kernel
theorem dX4_isClear_11 : decode cX4_isClear 11 = .ok (.iload_n 3, 1) := by decide +kernel
theorem dX4_isClear_12 : decode cX4_isClear 12 = .ok (.iload_n 1, 1) := by decide +kernel
theorem dX4_isClear_13 : decode cX4_isClear 13 = .ok (.invokevirtual 81, 3) := by decide +kernel
theorem dX4_isClear_16 : decode cX4_isClear 16 = .ok (.ifCond .eq 18, 3) := by decide +kernel
theorem dX4_isClear_19 : decode cX4_isClear 19 = .ok (.aload_n 0, 1) := by decide +kernel
theorem dX4_isClear_20 : decode cX4_isClear 20 = .ok (.getfield 56, 3) := by decide +kernel
theorem dX4_isClear_23 : decode cX4_isClear 23 = .ok (.iload_n 2, 1) := by decide +kernel
theorem dX4_isClear_24 : decode cX4_isClear 24 = .ok (.aload_n 0, 1) := by decide +kernel
theorem dX4_isClear_25 : decode cX4_isClear 25 = .ok (.getfield 40, 3) := by decide +kernel
theorem dX4_isClear_28 : decode cX4_isClear 28 = .ok (.iload_n 3, 1) := by decide +kernel
theorem dX4_isClear_29 : decode cX4_isClear 29 = .ok (.iaload, 1) := by decide +kernel
theorem dX4_isClear_30 : decode cX4_isClear 30 = .ok (.iastore, 1) := by decide +kernel
theorem dX4_isClear_31 : decode cX4_isClear 31 = .ok (.iinc 2 1, 3) := by decide +kernel
theorem dX4_isClear_34 : decode cX4_isClear 34 = .ok (.iinc 3 1, 3) := by decide +kernel
theorem dX4_isClear_37 : decode cX4_isClear 37 = .ok (.goto (-33), 3) := by decide +kernel
theorem dX4_isClear_40 : decode cX4_isClear 40 = .ok (.iconst 1, 1) := by decide +kernel
theorem dX4_isClear_41 : decode cX4_isClear 41 = .ok (.istore_n 3, 1) := by decide +kernel
theorem dX4_isClear_42 : decode cX4_isClear 42 = .ok (.iconst 0, 1) := by decide +kernel
theorem dX4_isClear_43 : decode cX4_isClear 43 = .ok (.istore 4, 2) := by decide +kernel
theorem dX4_isClear_45 : decode cX4_isClear 45 = .ok (.iload 4, 2) := by decide +kernel
theorem dX4_isClear_47 : decode cX4_isClear 47 = .ok (.iload_n 2, 1) := by decide +kernel
theorem dX4_isClear_48 : decode cX4_isClear 48 = .ok (.iload_n 2, 1) := by decide +kernel
theorem dX4_isClear_49 : decode cX4_isClear 49 = .ok (.imul, 1) := by decide +kernel
theorem dX4_isClear_50 : decode cX4_isClear 50 = .ok (.if_icmp .ge 130, 3) := by decide +kernel
theorem dX4_isClear_53 : decode cX4_isClear 53 = .ok (.iload 4, 2) := by decide +kernel
theorem dX4_isClear_55 : decode cX4_isClear 55 = .ok (.iload_n 2, 1) := by decide +kernel
theorem dX4_isClear_56 : decode cX4_isClear 56 = .ok (.idiv, 1) := by decide +kernel
theorem dX4_isClear_57 : decode cX4_isClear 57 = .ok (.istore 5, 2) := by decide +kernel
theorem dX4_isClear_59 : decode cX4_isClear 59 = .ok (.iload 4, 2) := by decide +kernel
theorem dX4_isClear_61 : decode cX4_isClear 61 = .ok (.iload_n 2, 1) := by decide +kernel
theorem dX4_isClear_62 : decode cX4_isClear 62 = .ok (.irem, 1) := by decide +kernel
theorem dX4_isClear_63 : decode cX4_isClear 63 = .ok (.istore 6, 2) := by decide +kernel
theorem dX4_isClear_65 : decode cX4_isClear 65 = .ok (.iload_n 3, 1) := by decide +kernel
theorem dX4_isClear_66 : decode cX4_isClear 66 = .ok (.iload 5, 2) := by decide +kernel
theorem dX4_isClear_68 : decode cX4_isClear 68 = .ok (.iload 6, 2) := by decide +kernel
theorem dX4_isClear_70 : decode cX4_isClear 70 = .ok (.if_icmp .eq 26, 3) := by decide +kernel
theorem dX4_isClear_73 : decode cX4_isClear 73 = .ok (.aload_n 0, 1) := by decide +kernel
theorem dX4_isClear_74 : decode cX4_isClear 74 = .ok (.getfield 56, 3) := by decide +kernel
theorem dX4_isClear_77 : decode cX4_isClear 77 = .ok (.iload 5, 2) := by decide +kernel
theorem dX4_isClear_79 : decode cX4_isClear 79 = .ok (.iaload, 1) := by decide +kernel
theorem dX4_isClear_80 : decode cX4_isClear 80 = .ok (.aload_n 0, 1) := by decide +kernel
theorem dX4_isClear_81 : decode cX4_isClear 81 = .ok (.getfield 56, 3) := by decide +kernel
theorem dX4_isClear_84 : decode cX4_isClear 84 = .ok (.iload 6, 2) := by decide +kernel
theorem dX4_isClear_86 : decode cX4_isClear 86 = .ok (.iaload, 1) := by decide +kernel
theorem dX4_isClear_87 : decode cX4_isClear 87 = .ok (.isub, 1) := by decide +kernel
theorem dX4_isClear_88 : decode cX4_isClear 88 = .ok (.iconst (-1), 1) := by decide +kernel
theorem dX4_isClear_89 : decode cX4_isClear 89 = .ok (.iconst 1, 1) := by decide +kernel
theorem dX4_isClear_90 : decode cX4_isClear 90 = .ok (.invokestatic 63, 3) := by decide +kernel
theorem dX4_isClear_93 : decode cX4_isClear 93 = .ok (.ifCond .ne 7, 3) := by decide +kernel
theorem dX4_isClear_96 : decode cX4_isClear 96 = .ok (.iconst 1, 1) := by decide +kernel
theorem dX4_isClear_97 : decode cX4_isClear 97 = .ok (.goto 4, 3) := by decide +kernel
theorem dX4_isClear_100 : decode cX4_isClear 100 = .ok (.iconst 0, 1) := by decide +kernel
theorem dX4_isClear_101 : decode cX4_isClear 101 = .ok (.iand, 1) := by decide +kernel
theorem dX4_isClear_102 : decode cX4_isClear 102 = .ok (.istore_n 3, 1) := by decide +kernel
theorem dX4_isClear_103 : decode cX4_isClear 103 = .ok (.iconst 0, 1) := by decide +kernel
theorem dX4_isClear_104 : decode cX4_isClear 104 = .ok (.istore 7, 2) := by decide +kernel
theorem dX4_isClear_106 : decode cX4_isClear 106 = .ok (.iload 7, 2) := by decide +kernel
theorem dX4_isClear_108 : decode cX4_isClear 108 = .ok (.iload_n 2, 1) := by decide +kernel
theorem dX4_isClear_109 : decode cX4_isClear 109 = .ok (.if_icmp .ge 65, 3) := by decide +kernel
theorem dX4_isClear_112 : decode cX4_isClear 112 = .ok (.iload_n 3, 1) := by decide +kernel
theorem dX4_isClear_113 : decode cX4_isClear 113 = .ok (.iload 5, 2) := by decide +kernel
theorem dX4_isClear_115 : decode cX4_isClear 115 = .ok (.iload 6, 2) := by decide +kernel
theorem dX4_isClear_117 : decode cX4_isClear 117 = .ok (.if_icmp .eq 44, 3) := by decide +kernel
theorem dX4_isClear_120 : decode cX4_isClear 120 = .ok (.iload 7, 2) := by decide +kernel
theorem dX4_isClear_122 : decode cX4_isClear 122 = .ok (.iload 5, 2) := by decide +kernel
theorem dX4_isClear_124 : decode cX4_isClear 124 = .ok (.if_icmp .eq 37, 3) := by decide +kernel
theorem dX4_isClear_127 : decode cX4_isClear 127 = .ok (.iload 7, 2) := by decide +kernel
theorem dX4_isClear_129 : decode cX4_isClear 129 = .ok (.iload 6, 2) := by decide +kernel
theorem dX4_isClear_131 : decode cX4_isClear 131 = .ok (.if_icmp .eq 30, 3) := by decide +kernel
theorem dX4_isClear_134 : decode cX4_isClear 134 = .ok (.iconst 2, 1) := by decide +kernel
theorem dX4_isClear_135 : decode cX4_isClear 135 = .ok (.aload_n 0, 1) := by decide +kernel
theorem dX4_isClear_136 : decode cX4_isClear 136 = .ok (.getfield 56, 3) := by decide +kernel
theorem dX4_isClear_139 : decode cX4_isClear 139 = .ok (.iload 5, 2) := by decide +kernel
theorem dX4_isClear_141 : decode cX4_isClear 141 = .ok (.iaload, 1) := by decide +kernel
theorem dX4_isClear_142 : decode cX4_isClear 142 = .ok (.imul, 1) := by decide +kernel
theorem dX4_isClear_143 : decode cX4_isClear 143 = .ok (.aload_n 0, 1) := by decide +kernel
theorem dX4_isClear_144 : decode cX4_isClear 144 = .ok (.getfield 56, 3) := by decide +kernel
theorem dX4_isClear_147 : decode cX4_isClear 147 = .ok (.iload 6, 2) := by decide +kernel
theorem dX4_isClear_149 : decode cX4_isClear 149 = .ok (.iaload, 1) := by decide +kernel
theorem dX4_isClear_150 : decode cX4_isClear 150 = .ok (.isub, 1) := by decide +kernel
theorem dX4_isClear_151 : decode cX4_isClear 151 = .ok (.aload_n 0, 1) := by decide +kernel
theorem dX4_isClear_152 : decode cX4_isClear 152 = .ok (.getfield 56, 3) := by decide +kernel
theorem dX4_isClear_155 : decode cX4_isClear 155 = .ok (.iload 7, 2) := by decide +kernel
theorem dX4_isClear_157 : decode cX4_isClear 157 = .ok (.iaload, 1) := by decide +kernel
theorem dX4_isClear_158 : decode cX4_isClear 158 = .ok (.if_icmp .eq 7, 3) := by decide +kernel
theorem dX4_isClear_161 : decode cX4_isClear 161 = .ok (.iconst 1, 1) := by decide +kernel
theorem dX4_isClear_162 : decode cX4_isClear 162 = .ok (.goto 4, 3) := by decide +kernel
theorem dX4_isClear_165 : decode cX4_isClear 165 = .ok (.iconst 0, 1) := by decide +kernel
theorem dX4_isClear_166 : decode cX4_isClear 166 = .ok (.iand, 1) := by decide +kernel
theorem dX4_isClear_167 : decode cX4_isClear 167 = .ok (.istore_n 3, 1) := by decide +kernel
theorem dX4_isClear_168 : decode cX4_isClear 168 = .ok (.iinc 7 1, 3) := by decide +kernel
theorem dX4_isClear_171 : decode cX4_isClear 171 = .ok (.goto (-65), 3) := by decide +kernel
theorem dX4_isClear_174 : decode cX4_isClear 174 = .ok (.iinc 4 1, 3) := by decide +kernel
theorem dX4_isClear_177 : decode cX4_isClear 177 = .ok (.goto (-132), 3) := by decide +kernel
theorem dX4_isClear_180 : decode cX4_isClear 180 = .ok (.iload_n 3, 1) := by decide +kernel
theorem dX4_isClear_181 : decode cX4_isClear 181 = .ok (.ireturn, 1) := by decide +kernel
theorem dX4_isQuiet_0 : decode cX4_isQuiet 0 = .ok (.iconst 1, 1) := by decide +kernel
theorem dX4_isQuiet_1 : decode cX4_isQuiet 1 = .ok (.istore_n 2, 1) := by decide +kernel
theorem dX4_isQuiet_2 : decode cX4_isQuiet 2 = .ok (.iconst 0, 1) := by decide +kernel
theorem dX4_isQuiet_3 : decode cX4_isQuiet 3 = .ok (.istore_n 3, 1) := by decide +kernel
theorem dX4_isQuiet_4 : decode cX4_isQuiet 4 = .ok (.iload_n 3, 1) := by decide +kernel
theorem dX4_isQuiet_5 : decode cX4_isQuiet 5 = .ok (.iconst 3, 1) := by decide +kernel
theorem dX4_isQuiet_6 : decode cX4_isQuiet 6 = .ok (.if_icmp .ge 46, 3) := by decide +kernel
theorem dX4_isQuiet_9 : decode cX4_isQuiet 9 = .ok (.iload_n 2, 1) := by decide +kernel
theorem dX4_isQuiet_10 : decode cX4_isQuiet 10 = .ok (.aload_n 0, 1) := by decide +kernel
theorem dX4_isQuiet_11 : decode cX4_isQuiet 11 = .ok (.iload_n 1, 1) := by decide +kernel
theorem dX4_isQuiet_12 : decode cX4_isQuiet 12 = .ok (.iload_n 3, 1) := by decide +kernel
theorem dX4_isQuiet_13 : decode cX4_isQuiet 13 = .ok (.invokevirtual 84, 3) := by decide +kernel
theorem dX4_isQuiet_16 : decode cX4_isQuiet 16 = .ok (.aload_n 0, 1) := by decide +kernel
theorem dX4_isQuiet_17 : decode cX4_isQuiet 17 = .ok (.getfield 16, 3) := by decide +kernel
theorem dX4_isQuiet_20 : decode cX4_isQuiet 20 = .ok (.iload_n 3, 1) := by decide +kernel
theorem dX4_isQuiet_21 : decode cX4_isQuiet 21 = .ok (.iaload, 1) := by decide +kernel
theorem dX4_isQuiet_22 : decode cX4_isQuiet 22 = .ok (.iload_n 1, 1) := by decide +kernel
theorem dX4_isQuiet_23 : decode cX4_isQuiet 23 = .ok (.sipush 600, 3) := by decide +kernel
theorem dX4_isQuiet_26 : decode cX4_isQuiet 26 = .ok (.if_icmp .lt 8, 3) := by decide +kernel
theorem dX4_isQuiet_29 : decode cX4_isQuiet 29 = .ok (.bipush 10, 2) := by decide +kernel
theorem dX4_isQuiet_31 : decode cX4_isQuiet 31 = .ok (.goto 4, 3) := by decide +kernel
theorem dX4_isQuiet_34 : decode cX4_isQuiet 34 = .ok (.iconst 0, 1) := by decide +kernel
theorem dX4_isQuiet_35 : decode cX4_isQuiet 35 = .ok (.isub, 1) := by decide +kernel
theorem dX4_isQuiet_36 : decode cX4_isQuiet 36 = .ok (.if_icmp .gt 7, 3) := by decide +kernel
theorem dX4_isQuiet_39 : decode cX4_isQuiet 39 = .ok (.iconst 1, 1) := by decide +kernel
theorem dX4_isQuiet_40 : decode cX4_isQuiet 40 = .ok (.goto 4, 3) := by decide +kernel
theorem dX4_isQuiet_43 : decode cX4_isQuiet 43 = .ok (.iconst 0, 1) := by decide +kernel
theorem dX4_isQuiet_44 : decode cX4_isQuiet 44 = .ok (.iand, 1) := by decide +kernel
theorem dX4_isQuiet_45 : decode cX4_isQuiet 45 = .ok (.istore_n 2, 1) := by decide +kernel
theorem dX4_isQuiet_46 : decode cX4_isQuiet 46 = .ok (.iinc 3 1, 3) := by decide +kernel
theorem dX4_isQuiet_49 : decode cX4_isQuiet 49 = .ok (.goto (-45), 3) := by decide +kernel
theorem dX4_isQuiet_52 : decode cX4_isQuiet 52 = .ok (.iload_n 2, 1) := by decide +kernel
theorem dX4_isQuiet_53 : decode cX4_isQuiet 53 = .ok (.ireturn, 1) := by decide +kernel
theorem dX4_wrong_0 : decode cX4_wrong 0 = .ok (.aload_n 0, 1) := by decide +kernel
theorem dX4_wrong_1 : decode cX4_wrong 1 = .ok (.invokevirtual 87, 3) := by decide +kernel
theorem dX4_wrong_4 : decode cX4_wrong 4 = .ok (.ifCond .ne 5, 3) := by decide +kernel
theorem dX4_wrong_7 : decode cX4_wrong 7 = .ok (.iconst 1, 1) := by decide +kernel
theorem dX4_wrong_8 : decode cX4_wrong 8 = .ok (.ireturn, 1) := by decide +kernel
theorem dX4_wrong_9 : decode cX4_wrong 9 = .ok (.iconst 5, 1) := by decide +kernel
theorem dX4_wrong_10 : decode cX4_wrong 10 = .ok (.istore_n 1, 1) := by decide +kernel
theorem dX4_wrong_11 : decode cX4_wrong 11 = .ok (.iconst 0, 1) := by decide +kernel
theorem dX4_wrong_12 : decode cX4_wrong 12 = .ok (.istore_n 2, 1) := by decide +kernel
theorem dX4_wrong_13 : decode cX4_wrong 13 = .ok (.iload_n 2, 1) := by decide +kernel
theorem dX4_wrong_14 : decode cX4_wrong 14 = .ok (.bipush 34, 2) := by decide +kernel
theorem dX4_wrong_16 : decode cX4_wrong 16 = .ok (.if_icmp .ge 107, 3) := by decide +kernel
theorem dX4_wrong_19 : decode cX4_wrong 19 = .ok (.iload_n 2, 1) := by decide +kernel
theorem dX4_wrong_20 : decode cX4_wrong 20 = .ok (.bipush 17, 2) := by decide +kernel
theorem dX4_wrong_22 : decode cX4_wrong 22 = .ok (.if_icmp .lt 15, 3) := by decide +kernel
theorem dX4_wrong_25 : decode cX4_wrong 25 = .ok (.aload_n 0, 1) := by decide +kernel
theorem dX4_wrong_26 : decode cX4_wrong 26 = .ok (.getfield 43, 3) := by decide +kernel
theorem dX4_wrong_29 : decode cX4_wrong 29 = .ok (.iload_n 2, 1) := by decide +kernel
theorem dX4_wrong_30 : decode cX4_wrong 30 = .ok (.bipush 17, 2) := by decide +kernel
theorem dX4_wrong_32 : decode cX4_wrong 32 = .ok (.isub, 1) := by decide +kernel
theorem dX4_wrong_33 : decode cX4_wrong 33 = .ok (.baload, 1) := by decide +kernel
theorem dX4_wrong_34 : decode cX4_wrong 34 = .ok (.ifCond .eq 83, 3) := by decide +kernel
theorem dX4_wrong_37 : decode cX4_wrong 37 = .ok (.iload_n 2, 1) := by decide +kernel
theorem dX4_wrong_38 : decode cX4_wrong 38 = .ok (.bipush 17, 2) := by decide +kernel
theorem dX4_wrong_40 : decode cX4_wrong 40 = .ok (.if_icmp .ge 10, 3) := by decide +kernel
theorem dX4_wrong_43 : decode cX4_wrong 43 = .ok (.bipush 60, 2) := by decide +kernel
theorem dX4_wrong_45 : decode cX4_wrong 45 = .ok (.iload_n 2, 1) := by decide +kernel
theorem dX4_wrong_46 : decode cX4_wrong 46 = .ok (.imul, 1) := by decide +kernel
theorem dX4_wrong_47 : decode cX4_wrong 47 = .ok (.goto 12, 3) := by decide +kernel
theorem dX4_wrong_50 : decode cX4_wrong 50 = .ok (.aload_n 0, 1) := by decide +kernel
theorem dX4_wrong_51 : decode cX4_wrong 51 = .ok (.getfield 25, 3) := by decide +kernel
theorem dX4_wrong_54 : decode cX4_wrong 54 = .ok (.iload_n 2, 1) := by decide +kernel
theorem dX4_wrong_55 : decode cX4_wrong 55 = .ok (.bipush 17, 2) := by decide +kernel
theorem dX4_wrong_57 : decode cX4_wrong 57 = .ok (.isub, 1) := by decide +kernel
theorem dX4_wrong_58 : decode cX4_wrong 58 = .ok (.iaload, 1) := by decide +kernel
theorem dX4_wrong_59 : decode cX4_wrong 59 = .ok (.istore_n 3, 1) := by decide +kernel
theorem dX4_wrong_60 : decode cX4_wrong 60 = .ok (.iload_n 1, 1) := by decide +kernel
theorem dX4_wrong_61 : decode cX4_wrong 61 = .ok (.iconst 2, 1) := by decide +kernel
theorem dX4_wrong_62 : decode cX4_wrong 62 = .ok (.if_icmp .le 15, 3) := by decide +kernel
theorem dX4_wrong_65 : decode cX4_wrong 65 = .ok (.aload_n 0, 1) := by decide +kernel
theorem dX4_wrong_66 : decode cX4_wrong 66 = .ok (.iload_n 3, 1) := by decide +kernel
theorem dX4_wrong_67 : decode cX4_wrong 67 = .ok (.invokevirtual 91, 3) := by decide +kernel
theorem dX4_wrong_70 : decode cX4_wrong 70 = .ok (.ifCond .ne 7, 3) := by decide +kernel
theorem dX4_wrong_73 : decode cX4_wrong 73 = .ok (.iconst 2, 1) := by decide +kernel
theorem dX4_wrong_74 : decode cX4_wrong 74 = .ok (.goto 4, 3) := by decide +kernel
theorem dX4_wrong_77 : decode cX4_wrong 77 = .ok (.iload_n 1, 1) := by decide +kernel
theorem dX4_wrong_78 : decode cX4_wrong 78 = .ok (.istore_n 1, 1) := by decide +kernel
theorem dX4_wrong_79 : decode cX4_wrong 79 = .ok (.iload_n 1, 1) := by decide +kernel
theorem dX4_wrong_80 : decode cX4_wrong 80 = .ok (.iconst 3, 1) := by decide +kernel
theorem dX4_wrong_81 : decode cX4_wrong 81 = .ok (.if_icmp .le 15, 3) := by decide +kernel
theorem dX4_wrong_84 : decode cX4_wrong 84 = .ok (.aload_n 0, 1) := by decide +kernel
theorem dX4_wrong_85 : decode cX4_wrong 85 = .ok (.iload_n 3, 1) := by decide +kernel
theorem dX4_wrong_86 : decode cX4_wrong 86 = .ok (.invokevirtual 95, 3) := by decide +kernel
theorem dX4_wrong_89 : decode cX4_wrong 89 = .ok (.ifCond .ne 7, 3) := by decide +kernel
theorem dX4_wrong_92 : decode cX4_wrong 92 = .ok (.iconst 3, 1) := by decide +kernel
theorem dX4_wrong_93 : decode cX4_wrong 93 = .ok (.goto 4, 3) := by decide +kernel
theorem dX4_wrong_96 : decode cX4_wrong 96 = .ok (.iload_n 1, 1) := by decide +kernel
theorem dX4_wrong_97 : decode cX4_wrong 97 = .ok (.istore_n 1, 1) := by decide +kernel
theorem dX4_wrong_98 : decode cX4_wrong 98 = .ok (.iload_n 1, 1) := by decide +kernel
theorem dX4_wrong_99 : decode cX4_wrong 99 = .ok (.iconst 4, 1) := by decide +kernel
theorem dX4_wrong_100 : decode cX4_wrong 100 = .ok (.if_icmp .le 15, 3) := by decide +kernel
theorem dX4_wrong_103 : decode cX4_wrong 103 = .ok (.aload_n 0, 1) := by decide +kernel
theorem dX4_wrong_104 : decode cX4_wrong 104 = .ok (.iload_n 3, 1) := by decide +kernel
theorem dX4_wrong_105 : decode cX4_wrong 105 = .ok (.invokevirtual 98, 3) := by decide +kernel
theorem dX4_wrong_108 : decode cX4_wrong 108 = .ok (.ifCond .ne 7, 3) := by decide +kernel
theorem dX4_wrong_111 : decode cX4_wrong 111 = .ok (.iconst 4, 1) := by decide +kernel
theorem dX4_wrong_112 : decode cX4_wrong 112 = .ok (.goto 4, 3) := by decide +kernel
theorem dX4_wrong_115 : decode cX4_wrong 115 = .ok (.iload_n 1, 1) := by decide +kernel
theorem dX4_wrong_116 : decode cX4_wrong 116 = .ok (.istore_n 1, 1) := by decide +kernel
theorem dX4_wrong_117 : decode cX4_wrong 117 = .ok (.iinc 2 1, 3) := by decide +kernel
theorem dX4_wrong_120 : decode cX4_wrong 120 = .ok (.goto (-107), 3) := by decide +kernel
theorem dX4_wrong_123 : decode cX4_wrong 123 = .ok (.iload_n 1, 1) := by decide +kernel
theorem dX4_wrong_124 : decode cX4_wrong 124 = .ok (.iconst 5, 1) := by decide +kernel
theorem dX4_wrong_125 : decode cX4_wrong 125 = .ok (.irem, 1) := by decide +kernel
theorem dX4_wrong_126 : decode cX4_wrong 126 = .ok (.ireturn, 1) := by decide +kernel
theorem dX4_startSet_0 : decode cX4_startSet 0 = .ok (.aload_n 0, 1) := by decide +kernel
theorem dX4_startSet_1 : decode cX4_startSet 1 = .ok (.iload_n 1, 1) := by decide +kernel
theorem dX4_startSet_2 : decode cX4_startSet 2 = .ok (.invokestatic 101, 3) := by decide +kernel
theorem dX4_startSet_5 : decode cX4_startSet 5 = .ok (.ifCond .ne 7, 3) := by decide +kernel
theorem dX4_startSet_8 : decode cX4_startSet 8 = .ok (.iconst 1, 1) := by decide +kernel
theorem dX4_startSet_9 : decode cX4_startSet 9 = .ok (.goto 17, 3) := by decide +kernel
theorem dX4_startSet_12 : decode cX4_startSet 12 = .ok (.aload_n 0, 1) := by decide +kernel
theorem dX4_startSet_13 : decode cX4_startSet 13 = .ok (.getfield 74, 3) := by decide +kernel
theorem dX4_startSet_16 : decode cX4_startSet 16 = .ok (.bipush 6, 2) := by decide +kernel
theorem dX4_startSet_18 : decode cX4_startSet 18 = .ok (.if_icmp .ne 7, 3) := by decide +kernel
theorem dX4_startSet_21 : decode cX4_startSet 21 = .ok (.iconst 2, 1) := by decide +kernel
theorem dX4_startSet_22 : decode cX4_startSet 22 = .ok (.goto 4, 3) := by decide +kernel
theorem dX4_startSet_25 : decode cX4_startSet 25 = .ok (.iconst 0, 1) := by decide +kernel
theorem dX4_startSet_26 : decode cX4_startSet 26 = .ok (.putfield 59, 3) := by decide +kernel
theorem dX4_startSet_29 : decode cX4_startSet 29 = .ok (.aload_n 0, 1) := by decide +kernel
theorem dX4_startSet_30 : decode cX4_startSet 30 = .ok (.getfield 59, 3) := by decide +kernel
theorem dX4_startSet_33 : decode cX4_startSet 33 = .ok (.ifCond .le 5, 3) := by decide +kernel
theorem dX4_startSet_36 : decode cX4_startSet 36 = .ok (.iconst 0, 1) := by decide +kernel
theorem dX4_startSet_37 : decode cX4_startSet 37 = .ok (.ireturn, 1) := by decide +kernel
theorem dX4_startSet_38 : decode cX4_startSet 38 = .ok (.iconst 0, 1) := by decide +kernel
theorem dX4_startSet_39 : decode cX4_startSet 39 = .ok (.istore_n 2, 1) := by decide +kernel
theorem dX4_startSet_40 : decode cX4_startSet 40 = .ok (.iload_n 2, 1) := by decide +kernel
theorem dX4_startSet_41 : decode cX4_startSet 41 = .ok (.aload_n 0, 1) := by decide +kernel
theorem dX4_startSet_42 : decode cX4_startSet 42 = .ok (.getfield 74, 3) := by decide +kernel
theorem dX4_startSet_45 : decode cX4_startSet 45 = .ok (.if_icmp .ge 29, 3) := by decide +kernel
theorem dX4_startSet_48 : decode cX4_startSet 48 = .ok (.iload_n 1, 1) := by decide +kernel
theorem dX4_startSet_49 : decode cX4_startSet 49 = .ok (.aload_n 0, 1) := by decide +kernel
theorem dX4_startSet_50 : decode cX4_startSet 50 = .ok (.getfield 7, 3) := by decide +kernel
theorem dX4_startSet_53 : decode cX4_startSet 53 = .ok (.iload_n 2, 1) := by decide +kernel
theorem dX4_startSet_54 : decode cX4_startSet 54 = .ok (.iaload, 1) := by decide +kernel
theorem dX4_startSet_55 : decode cX4_startSet 55 = .ok (.isub, 1) := by decide +kernel
theorem dX4_startSet_56 : decode cX4_startSet 56 = .ok (.bipush (-9), 2) := by decide +kernel
theorem dX4_startSet_58 : decode cX4_startSet 58 = .ok (.bipush 9, 2) := by decide +kernel
theorem dX4_startSet_60 : decode cX4_startSet 60 = .ok (.invokestatic 63, 3) := by decide +kernel
theorem dX4_startSet_63 : decode cX4_startSet 63 = .ok (.ifCond .eq 5, 3) := by decide +kernel
theorem dX4_startSet_66 : decode cX4_startSet 66 = .ok (.iconst (-1), 1) := by decide +kernel
theorem dX4_startSet_67 : decode cX4_startSet 67 = .ok (.ireturn, 1) := by decide +kernel
theorem dX4_startSet_68 : decode cX4_startSet 68 = .ok (.iinc 2 1, 3) := by decide +kernel
theorem dX4_startSet_71 : decode cX4_startSet 71 = .ok (.goto (-31), 3) := by decide +kernel
theorem dX4_startSet_74 : decode cX4_startSet 74 = .ok (.aload_n 0, 1) := by decide +kernel
theorem dX4_startSet_75 : decode cX4_startSet 75 = .ok (.getfield 7, 3) := by decide +kernel
theorem dX4_startSet_78 : decode cX4_startSet 78 = .ok (.aload_n 0, 1) := by decide +kernel
theorem dX4_startSet_79 : decode cX4_startSet 79 = .ok (.getfield 74, 3) := by decide +kernel
theorem dX4_startSet_82 : decode cX4_startSet 82 = .ok (.iload_n 1, 1) := by decide +kernel
theorem dX4_startSet_83 : decode cX4_startSet 83 = .ok (.iastore, 1) := by decide +kernel
theorem dX4_startSet_84 : decode cX4_startSet 84 = .ok (.aload_n 0, 1) := by decide +kernel
theorem dX4_startSet_85 : decode cX4_startSet 85 = .ok (.dup, 1) := by decide +kernel
theorem dX4_startSet_86 : decode cX4_startSet 86 = .ok (.getfield 74, 3) := by decide +kernel
theorem dX4_startSet_89 : decode cX4_startSet 89 = .ok (.iconst 1, 1) := by decide +kernel
theorem dX4_startSet_90 : decode cX4_startSet 90 = .ok (.iadd, 1) := by decide +kernel
theorem dX4_startSet_91 : decode cX4_startSet 91 = .ok (.putfield 74, 3) := by decide +kernel
theorem dX4_startSet_94 : decode cX4_startSet 94 = .ok (.aload_n 0, 1) := by decide +kernel
theorem dX4_startSet_95 : decode cX4_startSet 95 = .ok (.getfield 74, 3) := by decide +kernel
theorem dX4_startSet_98 : decode cX4_startSet 98 = .ok (.ireturn, 1) := by decide +kernel
theorem dX4_setChange_0 : decode cX4_setChange 0 = .ok (.aload_n 0, 1) := by decide +kernel
theorem dX4_setChange_1 : decode cX4_setChange 1 = .ok (.iload_n 1, 1) := by decide +kernel
theorem dX4_setChange_2 : decode cX4_setChange 2 = .ok (.invokestatic 104, 3) := by decide +kernel
theorem dX4_setChange_5 : decode cX4_setChange 5 = .ok (.ifCond .ne 7, 3) := by decide +kernel
theorem dX4_setChange_8 : decode cX4_setChange 8 = .ok (.iconst 1, 1) := by decide +kernel
theorem dX4_setChange_9 : decode cX4_setChange 9 = .ok (.goto 18, 3) := by decide +kernel
theorem dX4_setChange_12 : decode cX4_setChange 12 = .ok (.iload_n 2, 1) := by decide +kernel
theorem dX4_setChange_13 : decode cX4_setChange 13 = .ok (.iconst 0, 1) := by decide +kernel
theorem dX4_setChange_14 : decode cX4_setChange 14 = .ok (.bipush 60, 2) := by decide +kernel
theorem dX4_setChange_16 : decode cX4_setChange 16 = .ok (.invokestatic 63, 3) := by decide +kernel
theorem dX4_setChange_19 : decode cX4_setChange 19 = .ok (.ifCond .eq 7, 3) := by decide +kernel
theorem dX4_setChange_22 : decode cX4_setChange 22 = .ok (.iconst 0, 1) := by decide +kernel
theorem dX4_setChange_23 : decode cX4_setChange 23 = .ok (.goto 4, 3) := by decide +kernel
theorem dX4_setChange_26 : decode cX4_setChange 26 = .ok (.iconst 2, 1) := by decide +kernel
theorem dX4_setChange_27 : decode cX4_setChange 27 = .ok (.putfield 59, 3) := by decide +kernel
theorem dX4_setChange_30 : decode cX4_setChange 30 = .ok (.aload_n 0, 1) := by decide +kernel
theorem dX4_setChange_31 : decode cX4_setChange 31 = .ok (.getfield 59, 3) := by decide +kernel
theorem dX4_setChange_34 : decode cX4_setChange 34 = .ok (.ifCond .le 5, 3) := by decide +kernel
theorem dX4_setChange_37 : decode cX4_setChange 37 = .ok (.iconst 0, 1) := by decide +kernel
theorem dX4_setChange_38 : decode cX4_setChange 38 = .ok (.ireturn, 1) := by decide +kernel
theorem dX4_setChange_39 : decode cX4_setChange 39 = .ok (.aload_n 0, 1) := by decide +kernel
theorem dX4_setChange_40 : decode cX4_setChange 40 = .ok (.getfield 13, 3) := by decide +kernel
theorem dX4_setChange_43 : decode cX4_setChange 43 = .ok (.iload_n 1, 1) := by decide +kernel
theorem dX4_setChange_44 : decode cX4_setChange 44 = .ok (.iaload, 1) := by decide +kernel
theorem dX4_setChange_45 : decode cX4_setChange 45 = .ok (.istore_n 3, 1) := by decide +kernel
theorem dX4_setChange_46 : decode cX4_setChange 46 = .ok (.aload_n 0, 1) := by decide +kernel
theorem dX4_setChange_47 : decode cX4_setChange 47 = .ok (.getfield 13, 3) := by decide +kernel
theorem dX4_setChange_50 : decode cX4_setChange 50 = .ok (.iload_n 1, 1) := by decide +kernel
theorem dX4_setChange_51 : decode cX4_setChange 51 = .ok (.iload_n 2, 1) := by decide +kernel
theorem dX4_setChange_52 : decode cX4_setChange 52 = .ok (.iastore, 1) := by decide +kernel
theorem dX4_setChange_53 : decode cX4_setChange 53 = .ok (.aload_n 0, 1) := by decide +kernel
theorem dX4_setChange_54 : decode cX4_setChange 54 = .ok (.invokevirtual 107, 3) := by decide +kernel
theorem dX4_setChange_57 : decode cX4_setChange 57 = .ok (.ifCond .ne 7, 3) := by decide +kernel
theorem dX4_setChange_60 : decode cX4_setChange 60 = .ok (.iconst 1, 1) := by decide +kernel
theorem dX4_setChange_61 : decode cX4_setChange 61 = .ok (.goto 4, 3) := by decide +kernel
theorem dX4_setChange_64 : decode cX4_setChange 64 = .ok (.iconst 0, 1) := by decide +kernel
theorem dX4_setChange_65 : decode cX4_setChange 65 = .ok (.istore 4, 2) := by decide +kernel
theorem dX4_setChange_67 : decode cX4_setChange 67 = .ok (.aload_n 0, 1) := by decide +kernel
theorem dX4_setChange_68 : decode cX4_setChange 68 = .ok (.getfield 13, 3) := by decide +kernel
theorem dX4_setChange_71 : decode cX4_setChange 71 = .ok (.iload_n 1, 1) := by decide +kernel
theorem dX4_setChange_72 : decode cX4_setChange 72 = .ok (.iload 4, 2) := by decide +kernel
theorem dX4_setChange_74 : decode cX4_setChange 74 = .ok (.ifCond .eq 7, 3) := by decide +kernel
theorem dX4_setChange_77 : decode cX4_setChange 77 = .ok (.iload_n 2, 1) := by decide +kernel
theorem dX4_setChange_78 : decode cX4_setChange 78 = .ok (.goto 4, 3) := by decide +kernel
theorem dX4_setChange_81 : decode cX4_setChange 81 = .ok (.iload_n 3, 1) := by decide +kernel
theorem dX4_setChange_82 : decode cX4_setChange 82 = .ok (.iastore, 1) := by decide +kernel
theorem dX4_setChange_83 : decode cX4_setChange 83 = .ok (.iload 4, 2) := by decide +kernel
theorem dX4_setChange_85 : decode cX4_setChange 85 = .ok (.ireturn, 1) := by decide +kernel
theorem dX4_setBound_0 : decode cX4_setBound 0 = .ok (.aload_n 0, 1) := by decide +kernel
theorem dX4_setBound_1 : decode cX4_setBound 1 = .ok (.iload_n 1, 1) := by decide +kernel
theorem dX4_setBound_2 : decode cX4_setBound 2 = .ok (.invokestatic 104, 3) := by decide +kernel
theorem dX4_setBound_5 : decode cX4_setBound 5 = .ok (.ifCond .ne 7, 3) := by decide +kernel
theorem dX4_setBound_8 : decode cX4_setBound 8 = .ok (.iconst 1, 1) := by decide +kernel
theorem dX4_setBound_9 : decode cX4_setBound 9 = .ok (.goto 20, 3) := by decide +kernel
theorem dX4_setBound_12 : decode cX4_setBound 12 = .ok (.iload_n 2, 1) := by decide +kernel
theorem dX4_setBound_13 : decode cX4_setBound 13 = .ok (.bipush 10, 2) := by decide +kernel
theorem dX4_setBound_15 : decode cX4_setBound 15 = .ok (.sipush 300, 3) := by decide +kernel
theorem dX4_setBound_18 : decode cX4_setBound 18 = .ok (.invokestatic 63, 3) := by decide +kernel
theorem dX4_setBound_21 : decode cX4_setBound 21 = .ok (.ifCond .eq 7, 3) := by decide +kernel
theorem dX4_setBound_24 : decode cX4_setBound 24 = .ok (.iconst 0, 1) := by decide +kernel
theorem dX4_setBound_25 : decode cX4_setBound 25 = .ok (.goto 4, 3) := by decide +kernel
theorem dX4_setBound_28 : decode cX4_setBound 28 = .ok (.iconst 2, 1) := by decide +kernel
theorem dX4_setBound_29 : decode cX4_setBound 29 = .ok (.putfield 59, 3) := by decide +kernel
theorem dX4_setBound_32 : decode cX4_setBound 32 = .ok (.aload_n 0, 1) := by decide +kernel
theorem dX4_setBound_33 : decode cX4_setBound 33 = .ok (.getfield 59, 3) := by decide +kernel
theorem dX4_setBound_36 : decode cX4_setBound 36 = .ok (.ifCond .le 5, 3) := by decide +kernel
theorem dX4_setBound_39 : decode cX4_setBound 39 = .ok (.iconst 0, 1) := by decide +kernel
theorem dX4_setBound_40 : decode cX4_setBound 40 = .ok (.ireturn, 1) := by decide +kernel
theorem dX4_setBound_41 : decode cX4_setBound 41 = .ok (.aload_n 0, 1) := by decide +kernel
theorem dX4_setBound_42 : decode cX4_setBound 42 = .ok (.getfield 16, 3) := by decide +kernel
theorem dX4_setBound_45 : decode cX4_setBound 45 = .ok (.iload_n 1, 1) := by decide +kernel
theorem dX4_setBound_46 : decode cX4_setBound 46 = .ok (.iaload, 1) := by decide +kernel
theorem dX4_setBound_47 : decode cX4_setBound 47 = .ok (.istore_n 3, 1) := by decide +kernel
theorem dX4_setBound_48 : decode cX4_setBound 48 = .ok (.aload_n 0, 1) := by decide +kernel
theorem dX4_setBound_49 : decode cX4_setBound 49 = .ok (.getfield 16, 3) := by decide +kernel
theorem dX4_setBound_52 : decode cX4_setBound 52 = .ok (.iload_n 1, 1) := by decide +kernel
theorem dX4_setBound_53 : decode cX4_setBound 53 = .ok (.iload_n 2, 1) := by decide +kernel
theorem dX4_setBound_54 : decode cX4_setBound 54 = .ok (.iastore, 1) := by decide +kernel
theorem dX4_setBound_55 : decode cX4_setBound 55 = .ok (.aload_n 0, 1) := by decide +kernel
theorem dX4_setBound_56 : decode cX4_setBound 56 = .ok (.invokevirtual 107, 3) := by decide +kernel
theorem dX4_setBound_59 : decode cX4_setBound 59 = .ok (.ifCond .ne 7, 3) := by decide +kernel
theorem dX4_setBound_62 : decode cX4_setBound 62 = .ok (.iconst 1, 1) := by decide +kernel
theorem dX4_setBound_63 : decode cX4_setBound 63 = .ok (.goto 4, 3) := by decide +kernel
theorem dX4_setBound_66 : decode cX4_setBound 66 = .ok (.iconst 0, 1) := by decide +kernel
theorem dX4_setBound_67 : decode cX4_setBound 67 = .ok (.istore 4, 2) := by decide +kernel
theorem dX4_setBound_69 : decode cX4_setBound 69 = .ok (.aload_n 0, 1) := by decide +kernel
theorem dX4_setBound_70 : decode cX4_setBound 70 = .ok (.getfield 16, 3) := by decide +kernel
theorem dX4_setBound_73 : decode cX4_setBound 73 = .ok (.iload_n 1, 1) := by decide +kernel
theorem dX4_setBound_74 : decode cX4_setBound 74 = .ok (.iload 4, 2) := by decide +kernel
theorem dX4_setBound_76 : decode cX4_setBound 76 = .ok (.ifCond .eq 7, 3) := by decide +kernel
theorem dX4_setBound_79 : decode cX4_setBound 79 = .ok (.iload_n 2, 1) := by decide +kernel
theorem dX4_setBound_80 : decode cX4_setBound 80 = .ok (.goto 4, 3) := by decide +kernel
theorem dX4_setBound_83 : decode cX4_setBound 83 = .ok (.iload_n 3, 1) := by decide +kernel
theorem dX4_setBound_84 : decode cX4_setBound 84 = .ok (.iastore, 1) := by decide +kernel
theorem dX4_setBound_85 : decode cX4_setBound 85 = .ok (.iload 4, 2) := by decide +kernel
theorem dX4_setBound_87 : decode cX4_setBound 87 = .ok (.ireturn, 1) := by decide +kernel
theorem dX4_setWind_0 : decode cX4_setWind 0 = .ok (.aload_n 0, 1) := by decide +kernel
theorem dX4_setWind_1 : decode cX4_setWind 1 = .ok (.iload_n 1, 1) := by decide +kernel
theorem dX4_setWind_2 : decode cX4_setWind 2 = .ok (.iconst 0, 1) := by decide +kernel
theorem dX4_setWind_3 : decode cX4_setWind 3 = .ok (.bipush 16, 2) := by decide +kernel
theorem dX4_setWind_5 : decode cX4_setWind 5 = .ok (.invokestatic 63, 3) := by decide +kernel
theorem dX4_setWind_8 : decode cX4_setWind 8 = .ok (.ifCond .ne 7, 3) := by decide +kernel
theorem dX4_setWind_11 : decode cX4_setWind 11 = .ok (.iconst 1, 1) := by decide +kernel
theorem dX4_setWind_12 : decode cX4_setWind 12 = .ok (.goto 19, 3) := by decide +kernel
theorem dX4_setWind_15 : decode cX4_setWind 15 = .ok (.iload_n 2, 1) := by decide +kernel
theorem dX4_setWind_16 : decode cX4_setWind 16 = .ok (.bipush (-10), 2) := by decide +kernel
theorem dX4_setWind_18 : decode cX4_setWind 18 = .ok (.bipush 10, 2) := by decide +kernel
theorem dX4_setWind_20 : decode cX4_setWind 20 = .ok (.invokestatic 63, 3) := by decide +kernel
theorem dX4_setWind_23 : decode cX4_setWind 23 = .ok (.ifCond .eq 7, 3) := by decide +kernel
theorem dX4_setWind_26 : decode cX4_setWind 26 = .ok (.iconst 0, 1) := by decide +kernel
theorem dX4_setWind_27 : decode cX4_setWind 27 = .ok (.goto 4, 3) := by decide +kernel
theorem dX4_setWind_30 : decode cX4_setWind 30 = .ok (.iconst 2, 1) := by decide +kernel
theorem dX4_setWind_31 : decode cX4_setWind 31 = .ok (.putfield 59, 3) := by decide +kernel
theorem dX4_setWind_34 : decode cX4_setWind 34 = .ok (.aload_n 0, 1) := by decide +kernel
theorem dX4_setWind_35 : decode cX4_setWind 35 = .ok (.getfield 59, 3) := by decide +kernel
theorem dX4_setWind_38 : decode cX4_setWind 38 = .ok (.ifCond .le 5, 3) := by decide +kernel
theorem dX4_setWind_41 : decode cX4_setWind 41 = .ok (.iconst 0, 1) := by decide +kernel
theorem dX4_setWind_42 : decode cX4_setWind 42 = .ok (.ireturn, 1) := by decide +kernel
theorem dX4_setWind_43 : decode cX4_setWind 43 = .ok (.aload_n 0, 1) := by decide +kernel
theorem dX4_setWind_44 : decode cX4_setWind 44 = .ok (.getfield 19, 3) := by decide +kernel
theorem dX4_setWind_47 : decode cX4_setWind 47 = .ok (.iload_n 1, 1) := by decide +kernel
theorem dX4_setWind_48 : decode cX4_setWind 48 = .ok (.iaload, 1) := by decide +kernel
theorem dX4_setWind_49 : decode cX4_setWind 49 = .ok (.istore_n 3, 1) := by decide +kernel
theorem dX4_setWind_50 : decode cX4_setWind 50 = .ok (.aload_n 0, 1) := by decide +kernel
theorem dX4_setWind_51 : decode cX4_setWind 51 = .ok (.getfield 19, 3) := by decide +kernel
theorem dX4_setWind_54 : decode cX4_setWind 54 = .ok (.iload_n 1, 1) := by decide +kernel
theorem dX4_setWind_55 : decode cX4_setWind 55 = .ok (.iload_n 2, 1) := by decide +kernel
theorem dX4_setWind_56 : decode cX4_setWind 56 = .ok (.iastore, 1) := by decide +kernel
theorem dX4_setWind_57 : decode cX4_setWind 57 = .ok (.aload_n 0, 1) := by decide +kernel
theorem dX4_setWind_58 : decode cX4_setWind 58 = .ok (.invokevirtual 107, 3) := by decide +kernel
theorem dX4_setWind_61 : decode cX4_setWind 61 = .ok (.ifCond .ne 7, 3) := by decide +kernel
theorem dX4_setWind_64 : decode cX4_setWind 64 = .ok (.iconst 1, 1) := by decide +kernel
theorem dX4_setWind_65 : decode cX4_setWind 65 = .ok (.goto 4, 3) := by decide +kernel
theorem dX4_setWind_68 : decode cX4_setWind 68 = .ok (.iconst 0, 1) := by decide +kernel
theorem dX4_setWind_69 : decode cX4_setWind 69 = .ok (.istore 4, 2) := by decide +kernel
theorem dX4_setWind_71 : decode cX4_setWind 71 = .ok (.aload_n 0, 1) := by decide +kernel
theorem dX4_setWind_72 : decode cX4_setWind 72 = .ok (.getfield 19, 3) := by decide +kernel
theorem dX4_setWind_75 : decode cX4_setWind 75 = .ok (.iload_n 1, 1) := by decide +kernel
theorem dX4_setWind_76 : decode cX4_setWind 76 = .ok (.iload 4, 2) := by decide +kernel
theorem dX4_setWind_78 : decode cX4_setWind 78 = .ok (.ifCond .eq 7, 3) := by decide +kernel
theorem dX4_setWind_81 : decode cX4_setWind 81 = .ok (.iload_n 2, 1) := by decide +kernel
theorem dX4_setWind_82 : decode cX4_setWind 82 = .ok (.goto 4, 3) := by decide +kernel
theorem dX4_setWind_85 : decode cX4_setWind 85 = .ok (.iload_n 3, 1) := by decide +kernel
theorem dX4_setWind_86 : decode cX4_setWind 86 = .ok (.iastore, 1) := by decide +kernel
theorem dX4_setWind_87 : decode cX4_setWind 87 = .ok (.iload 4, 2) := by decide +kernel
theorem dX4_setWind_89 : decode cX4_setWind 89 = .ok (.ireturn, 1) := by decide +kernel
theorem dX4_lays_0 : decode cX4_lays 0 = .ok (.iload_n 2, 1) := by decide +kernel
theorem dX4_lays_1 : decode cX4_lays 1 = .ok (.invokestatic 101, 3) := by decide +kernel
theorem dX4_lays_4 : decode cX4_lays 4 = .ok (.ifCond .eq 53, 3) := by decide +kernel
theorem dX4_lays_7 : decode cX4_lays 7 = .ok (.iload_n 3, 1) := by decide +kernel
theorem dX4_lays_8 : decode cX4_lays 8 = .ok (.iconst 1, 1) := by decide +kernel
theorem dX4_lays_9 : decode cX4_lays 9 = .ok (.sipush 200, 3) := by decide +kernel
theorem dX4_lays_12 : decode cX4_lays 12 = .ok (.invokestatic 63, 3) := by decide +kernel
theorem dX4_lays_15 : decode cX4_lays 15 = .ok (.ifCond .eq 42, 3) := by decide +kernel
theorem dX4_lays_18 : decode cX4_lays 18 = .ok (.iload 5, 2) := by decide +kernel
theorem dX4_lays_20 : decode cX4_lays 20 = .ok (.iconst 0, 1) := by decide +kernel
theorem dX4_lays_21 : decode cX4_lays 21 = .ok (.sipush 200, 3) := by decide +kernel
theorem dX4_lays_24 : decode cX4_lays 24 = .ok (.invokestatic 63, 3) := by decide +kernel
theorem dX4_lays_27 : decode cX4_lays 27 = .ok (.ifCond .eq 30, 3) := by decide +kernel
theorem dX4_lays_30 : decode cX4_lays 30 = .ok (.iload 6, 2) := by decide +kernel
theorem dX4_lays_32 : decode cX4_lays 32 = .ok (.iconst 0, 1) := by decide +kernel
theorem dX4_lays_33 : decode cX4_lays 33 = .ok (.sipush 200, 3) := by decide +kernel
theorem dX4_lays_36 : decode cX4_lays 36 = .ok (.invokestatic 63, 3) := by decide +kernel
theorem dX4_lays_39 : decode cX4_lays 39 = .ok (.ifCond .eq 18, 3) := by decide +kernel
theorem dX4_lays_42 : decode cX4_lays 42 = .ok (.iload 7, 2) := by decide +kernel
theorem dX4_lays_44 : decode cX4_lays 44 = .ok (.iconst (-1), 1) := by decide +kernel
theorem dX4_lays_45 : decode cX4_lays 45 = .ok (.bipush 31, 2) := by decide +kernel
theorem dX4_lays_47 : decode cX4_lays 47 = .ok (.invokestatic 63, 3) := by decide +kernel
theorem dX4_lays_50 : decode cX4_lays 50 = .ok (.ifCond .eq 7, 3) := by decide +kernel
theorem dX4_lays_53 : decode cX4_lays 53 = .ok (.iconst 1, 1) := by decide +kernel
theorem dX4_lays_54 : decode cX4_lays 54 = .ok (.goto 4, 3) := by decide +kernel
theorem dX4_lays_57 : decode cX4_lays 57 = .ok (.iconst 0, 1) := by decide +kernel
theorem dX4_lays_58 : decode cX4_lays 58 = .ok (.istore 8, 2) := by decide +kernel
theorem dX4_lays_60 : decode cX4_lays 60 = .ok (.aload_n 0, 1) := by decide +kernel
theorem dX4_lays_61 : decode cX4_lays 61 = .ok (.iload_n 1, 1) := by decide +kernel
theorem dX4_lays_62 : decode cX4_lays 62 = .ok (.invokestatic 104, 3) := by decide +kernel
theorem dX4_lays_65 : decode cX4_lays 65 = .ok (.ifCond .eq 11, 3) := by decide +kernel
theorem dX4_lays_68 : decode cX4_lays 68 = .ok (.iload 4, 2) := by decide +kernel
theorem dX4_lays_70 : decode cX4_lays 70 = .ok (.invokestatic 104, 3) := by decide +kernel
theorem dX4_lays_73 : decode cX4_lays 73 = .ok (.ifCond .ne 7, 3) := by decide +kernel
theorem dX4_lays_76 : decode cX4_lays 76 = .ok (.iconst 1, 1) := by decide +kernel
theorem dX4_lays_77 : decode cX4_lays 77 = .ok (.goto 26, 3) := by decide +kernel
theorem dX4_lays_80 : decode cX4_lays 80 = .ok (.iload 8, 2) := by decide +kernel
theorem dX4_lays_82 : decode cX4_lays 82 = .ok (.ifCond .ne 7, 3) := by decide +kernel
theorem dX4_lays_85 : decode cX4_lays 85 = .ok (.iconst 2, 1) := by decide +kernel
theorem dX4_lays_86 : decode cX4_lays 86 = .ok (.goto 17, 3) := by decide +kernel
theorem dX4_lays_89 : decode cX4_lays 89 = .ok (.aload_n 0, 1) := by decide +kernel
theorem dX4_lays_90 : decode cX4_lays 90 = .ok (.getfield 111, 3) := by decide +kernel
theorem dX4_lays_93 : decode cX4_lays 93 = .ok (.bipush 16, 2) := by decide +kernel
theorem dX4_lays_95 : decode cX4_lays 95 = .ok (.if_icmp .ne 7, 3) := by decide +kernel
theorem dX4_lays_98 : decode cX4_lays 98 = .ok (.iconst 3, 1) := by decide +kernel
theorem dX4_lays_99 : decode cX4_lays 99 = .ok (.goto 4, 3) := by decide +kernel
theorem dX4_lays_102 : decode cX4_lays 102 = .ok (.iconst 0, 1) := by decide +kernel
theorem dX4_lays_103 : decode cX4_lays 103 = .ok (.putfield 59, 3) := by decide +kernel
theorem dX4_lays_106 : decode cX4_lays 106 = .ok (.aload_n 0, 1) := by decide +kernel
theorem dX4_lays_107 : decode cX4_lays 107 = .ok (.getfield 59, 3) := by decide +kernel
theorem dX4_lays_110 : decode cX4_lays 110 = .ok (.ifCond .le 5, 3) := by decide +kernel
theorem dX4_lays_113 : decode cX4_lays 113 = .ok (.iconst 0, 1) := by decide +kernel
theorem dX4_lays_114 : decode cX4_lays 114 = .ok (.ireturn, 1) := by decide +kernel
theorem dX4_lays_115 : decode cX4_lays 115 = .ok (.aload_n 0, 1) := by decide +kernel
theorem dX4_lays_116 : decode cX4_lays 116 = .ok (.getfield 22, 3) := by decide +kernel
theorem dX4_lays_119 : decode cX4_lays 119 = .ok (.aload_n 0, 1) := by decide +kernel
theorem dX4_lays_120 : decode cX4_lays 120 = .ok (.getfield 111, 3) := by decide +kernel
theorem dX4_lays_123 : decode cX4_lays 123 = .ok (.iload_n 1, 1) := by decide +kernel
theorem dX4_lays_124 : decode cX4_lays 124 = .ok (.iastore, 1) := by decide +kernel
theorem dX4_lays_125 : decode cX4_lays 125 = .ok (.aload_n 0, 1) := by decide +kernel
theorem dX4_lays_126 : decode cX4_lays 126 = .ok (.getfield 25, 3) := by decide +kernel
theorem dX4_lays_129 : decode cX4_lays 129 = .ok (.aload_n 0, 1) := by decide +kernel
theorem dX4_lays_130 : decode cX4_lays 130 = .ok (.getfield 111, 3) := by decide +kernel
theorem dX4_lays_133 : decode cX4_lays 133 = .ok (.iload_n 2, 1) := by decide +kernel
theorem dX4_lays_134 : decode cX4_lays 134 = .ok (.iastore, 1) := by decide +kernel
theorem dX4_lays_135 : decode cX4_lays 135 = .ok (.aload_n 0, 1) := by decide +kernel
theorem dX4_lays_136 : decode cX4_lays 136 = .ok (.getfield 28, 3) := by decide +kernel
theorem dX4_lays_139 : decode cX4_lays 139 = .ok (.aload_n 0, 1) := by decide +kernel
theorem dX4_lays_140 : decode cX4_lays 140 = .ok (.getfield 111, 3) := by decide +kernel
theorem dX4_lays_143 : decode cX4_lays 143 = .ok (.iload_n 3, 1) := by decide +kernel
theorem dX4_lays_144 : decode cX4_lays 144 = .ok (.iastore, 1) := by decide +kernel
theorem dX4_lays_145 : decode cX4_lays 145 = .ok (.aload_n 0, 1) := by decide +kernel
theorem dX4_lays_146 : decode cX4_lays 146 = .ok (.getfield 31, 3) := by decide +kernel
theorem dX4_lays_149 : decode cX4_lays 149 = .ok (.aload_n 0, 1) := by decide +kernel
theorem dX4_lays_150 : decode cX4_lays 150 = .ok (.getfield 111, 3) := by decide +kernel
theorem dX4_lays_153 : decode cX4_lays 153 = .ok (.iload 4, 2) := by decide +kernel
theorem dX4_lays_155 : decode cX4_lays 155 = .ok (.iastore, 1) := by decide +kernel
theorem dX4_lays_156 : decode cX4_lays 156 = .ok (.aload_n 0, 1) := by decide +kernel
theorem dX4_lays_157 : decode cX4_lays 157 = .ok (.getfield 34, 3) := by decide +kernel
theorem dX4_lays_160 : decode cX4_lays 160 = .ok (.aload_n 0, 1) := by decide +kernel
theorem dX4_lays_161 : decode cX4_lays 161 = .ok (.getfield 111, 3) := by decide +kernel
theorem dX4_lays_164 : decode cX4_lays 164 = .ok (.iload 5, 2) := by decide +kernel
theorem dX4_lays_166 : decode cX4_lays 166 = .ok (.iastore, 1) := by decide +kernel
theorem dX4_lays_167 : decode cX4_lays 167 = .ok (.aload_n 0, 1) := by decide +kernel
theorem dX4_lays_168 : decode cX4_lays 168 = .ok (.getfield 37, 3) := by decide +kernel
theorem dX4_lays_171 : decode cX4_lays 171 = .ok (.aload_n 0, 1) := by decide +kernel
theorem dX4_lays_172 : decode cX4_lays 172 = .ok (.getfield 111, 3) := by decide +kernel
theorem dX4_lays_175 : decode cX4_lays 175 = .ok (.iload 6, 2) := by decide +kernel
theorem dX4_lays_177 : decode cX4_lays 177 = .ok (.iastore, 1) := by decide +kernel
theorem dX4_lays_178 : decode cX4_lays 178 = .ok (.aload_n 0, 1) := by decide +kernel
theorem dX4_lays_179 : decode cX4_lays 179 = .ok (.getfield 40, 3) := by decide +kernel
theorem dX4_lays_182 : decode cX4_lays 182 = .ok (.aload_n 0, 1) := by decide +kernel
theorem dX4_lays_183 : decode cX4_lays 183 = .ok (.getfield 111, 3) := by decide +kernel
theorem dX4_lays_186 : decode cX4_lays 186 = .ok (.iload 7, 2) := by decide +kernel
theorem dX4_lays_188 : decode cX4_lays 188 = .ok (.iastore, 1) := by decide +kernel
theorem dX4_lays_189 : decode cX4_lays 189 = .ok (.aload_n 0, 1) := by decide +kernel
theorem dX4_lays_190 : decode cX4_lays 190 = .ok (.getfield 43, 3) := by decide +kernel
theorem dX4_lays_193 : decode cX4_lays 193 = .ok (.aload_n 0, 1) := by decide +kernel
theorem dX4_lays_194 : decode cX4_lays 194 = .ok (.getfield 111, 3) := by decide +kernel
theorem dX4_lays_197 : decode cX4_lays 197 = .ok (.iconst 1, 1) := by decide +kernel
theorem dX4_lays_198 : decode cX4_lays 198 = .ok (.bastore, 1) := by decide +kernel
theorem dX4_lays_199 : decode cX4_lays 199 = .ok (.aload_n 0, 1) := by decide +kernel
theorem dX4_lays_200 : decode cX4_lays 200 = .ok (.invokevirtual 107, 3) := by decide +kernel
theorem dX4_lays_203 : decode cX4_lays 203 = .ok (.istore 9, 2) := by decide +kernel
theorem dX4_lays_205 : decode cX4_lays 205 = .ok (.aload_n 0, 1) := by decide +kernel
theorem dX4_lays_206 : decode cX4_lays 206 = .ok (.getfield 43, 3) := by decide +kernel
theorem dX4_lays_209 : decode cX4_lays 209 = .ok (.aload_n 0, 1) := by decide +kernel
theorem dX4_lays_210 : decode cX4_lays 210 = .ok (.getfield 111, 3) := by decide +kernel
theorem dX4_lays_213 : decode cX4_lays 213 = .ok (.iconst 0, 1) := by decide +kernel
theorem dX4_lays_214 : decode cX4_lays 214 = .ok (.bastore, 1) := by decide +kernel
theorem dX4_lays_215 : decode cX4_lays 215 = .ok (.iload 9, 2) := by decide +kernel
theorem dX4_lays_217 : decode cX4_lays 217 = .ok (.ireturn, 1) := by decide +kernel
theorem dX4_plan_0 : decode cX4_plan 0 = .ok (.aload_n 0, 1) := by decide +kernel
theorem dX4_plan_1 : decode cX4_plan 1 = .ok (.iload_n 1, 1) := by decide +kernel
theorem dX4_plan_2 : decode cX4_plan 2 = .ok (.iload_n 2, 1) := by decide +kernel
theorem dX4_plan_3 : decode cX4_plan 3 = .ok (.iload_n 3, 1) := by decide +kernel
theorem dX4_plan_4 : decode cX4_plan 4 = .ok (.iload 4, 2) := by decide +kernel
theorem dX4_plan_6 : decode cX4_plan 6 = .ok (.iload 5, 2) := by decide +kernel
theorem dX4_plan_8 : decode cX4_plan 8 = .ok (.iload 6, 2) := by decide +kernel
theorem dX4_plan_10 : decode cX4_plan 10 = .ok (.iload 7, 2) := by decide +kernel
theorem dX4_plan_12 : decode cX4_plan 12 = .ok (.invokevirtual 114, 3) := by decide +kernel
theorem dX4_plan_15 : decode cX4_plan 15 = .ok (.istore 8, 2) := by decide +kernel
theorem dX4_plan_17 : decode cX4_plan 17 = .ok (.aload_n 0, 1) := by decide +kernel
theorem dX4_plan_18 : decode cX4_plan 18 = .ok (.getfield 59, 3) := by decide +kernel
theorem dX4_plan_21 : decode cX4_plan 21 = .ok (.ifCond .le 5, 3) := by decide +kernel
theorem dX4_plan_24 : decode cX4_plan 24 = .ok (.iconst 0, 1) := by decide +kernel
theorem dX4_plan_25 : decode cX4_plan 25 = .ok (.ireturn, 1) := by decide +kernel
theorem dX4_plan_26 : decode cX4_plan 26 = .ok (.iload 8, 2) := by decide +kernel
theorem dX4_plan_28 : decode cX4_plan 28 = .ok (.ifCond .le 5, 3) := by decide +kernel
theorem dX4_plan_31 : decode cX4_plan 31 = .ok (.iconst (-1), 1) := by decide +kernel
theorem dX4_plan_32 : decode cX4_plan 32 = .ok (.ireturn, 1) := by decide +kernel
theorem dX4_plan_33 : decode cX4_plan 33 = .ok (.aload_n 0, 1) := by decide +kernel
theorem dX4_plan_34 : decode cX4_plan 34 = .ok (.getfield 43, 3) := by decide +kernel
theorem dX4_plan_37 : decode cX4_plan 37 = .ok (.aload_n 0, 1) := by decide +kernel
theorem dX4_plan_38 : decode cX4_plan 38 = .ok (.getfield 111, 3) := by decide +kernel
theorem dX4_plan_41 : decode cX4_plan 41 = .ok (.iconst 1, 1) := by decide +kernel
theorem dX4_plan_42 : decode cX4_plan 42 = .ok (.bastore, 1) := by decide +kernel
theorem dX4_plan_43 : decode cX4_plan 43 = .ok (.aload_n 0, 1) := by decide +kernel
theorem dX4_plan_44 : decode cX4_plan 44 = .ok (.dup, 1) := by decide +kernel
theorem dX4_plan_45 : decode cX4_plan 45 = .ok (.getfield 111, 3) := by decide +kernel
theorem dX4_plan_48 : decode cX4_plan 48 = .ok (.iconst 1, 1) := by decide +kernel
theorem dX4_plan_49 : decode cX4_plan 49 = .ok (.iadd, 1) := by decide +kernel
theorem dX4_plan_50 : decode cX4_plan 50 = .ok (.putfield 111, 3) := by decide +kernel
theorem dX4_plan_53 : decode cX4_plan 53 = .ok (.aload_n 0, 1) := by decide +kernel
theorem dX4_plan_54 : decode cX4_plan 54 = .ok (.getfield 111, 3) := by decide +kernel
theorem dX4_plan_57 : decode cX4_plan 57 = .ok (.iconst 1, 1) := by decide +kernel
theorem dX4_plan_58 : decode cX4_plan 58 = .ok (.isub, 1) := by decide +kernel
theorem dX4_plan_59 : decode cX4_plan 59 = .ok (.ireturn, 1) := by decide +kernel
theorem dX4_reason_0 : decode cX4_reason 0 = .ok (.aload_n 0, 1) := by decide +kernel
theorem dX4_reason_1 : decode cX4_reason 1 = .ok (.iload_n 1, 1) := by decide +kernel
theorem dX4_reason_2 : decode cX4_reason 2 = .ok (.iload_n 2, 1) := by decide +kernel
theorem dX4_reason_3 : decode cX4_reason 3 = .ok (.iload_n 3, 1) := by decide +kernel
theorem dX4_reason_4 : decode cX4_reason 4 = .ok (.iload 4, 2) := by decide +kernel
theorem dX4_reason_6 : decode cX4_reason 6 = .ok (.iload 5, 2) := by decide +kernel
theorem dX4_reason_8 : decode cX4_reason 8 = .ok (.iload 6, 2) := by decide +kernel
theorem dX4_reason_10 : decode cX4_reason 10 = .ok (.iload 7, 2) := by decide +kernel
theorem dX4_reason_12 : decode cX4_reason 12 = .ok (.invokevirtual 114, 3) := by decide +kernel
theorem dX4_reason_15 : decode cX4_reason 15 = .ok (.ireturn, 1) := by decide +kernel
theorem dX4_isAct_0 : decode cX4_isAct 0 = .ok (.iload_n 1, 1) := by decide +kernel
theorem dX4_isAct_1 : decode cX4_isAct 1 = .ok (.iconst 0, 1) := by decide +kernel
theorem dX4_isAct_2 : decode cX4_isAct 2 = .ok (.aload_n 0, 1) := by decide +kernel
theorem dX4_isAct_3 : decode cX4_isAct 3 = .ok (.getfield 111, 3) := by decide +kernel
theorem dX4_isAct_6 : decode cX4_isAct 6 = .ok (.iconst 1, 1) := by decide +kernel
theorem dX4_isAct_7 : decode cX4_isAct 7 = .ok (.isub, 1) := by decide +kernel
theorem dX4_isAct_8 : decode cX4_isAct 8 = .ok (.invokestatic 63, 3) := by decide +kernel
theorem dX4_isAct_11 : decode cX4_isAct 11 = .ok (.ireturn, 1) := by decide +kernel
theorem dX4_move_0 : decode cX4_move 0 = .ok (.aload_n 0, 1) := by decide +kernel
theorem dX4_move_1 : decode cX4_move 1 = .ok (.aload_n 0, 1) := by decide +kernel
theorem dX4_move_2 : decode cX4_move 2 = .ok (.iload_n 1, 1) := by decide +kernel
theorem dX4_move_3 : decode cX4_move 3 = .ok (.invokevirtual 118, 3) := by decide +kernel
theorem dX4_move_6 : decode cX4_move 6 = .ok (.ifCond .ne 7, 3) := by decide +kernel
theorem dX4_move_9 : decode cX4_move 9 = .ok (.iconst 1, 1) := by decide +kernel
theorem dX4_move_10 : decode cX4_move 10 = .ok (.goto 28, 3) := by decide +kernel
theorem dX4_move_13 : decode cX4_move 13 = .ok (.iload_n 2, 1) := by decide +kernel
theorem dX4_move_14 : decode cX4_move 14 = .ok (.invokestatic 101, 3) := by decide +kernel
theorem dX4_move_17 : decode cX4_move 17 = .ok (.ifCond .ne 7, 3) := by decide +kernel
theorem dX4_move_20 : decode cX4_move 20 = .ok (.iconst 2, 1) := by decide +kernel
theorem dX4_move_21 : decode cX4_move 21 = .ok (.goto 17, 3) := by decide +kernel
theorem dX4_move_24 : decode cX4_move 24 = .ok (.aload_n 0, 1) := by decide +kernel
theorem dX4_move_25 : decode cX4_move 25 = .ok (.getfield 43, 3) := by decide +kernel
theorem dX4_move_28 : decode cX4_move 28 = .ok (.iload_n 1, 1) := by decide +kernel
theorem dX4_move_29 : decode cX4_move 29 = .ok (.baload, 1) := by decide +kernel
theorem dX4_move_30 : decode cX4_move 30 = .ok (.ifCond .eq 7, 3) := by decide +kernel
theorem dX4_move_33 : decode cX4_move 33 = .ok (.iconst 0, 1) := by decide +kernel
theorem dX4_move_34 : decode cX4_move 34 = .ok (.goto 4, 3) := by decide +kernel
theorem dX4_move_37 : decode cX4_move 37 = .ok (.iconst 3, 1) := by decide +kernel
theorem dX4_move_38 : decode cX4_move 38 = .ok (.putfield 59, 3) := by decide +kernel
theorem dX4_move_41 : decode cX4_move 41 = .ok (.aload_n 0, 1) := by decide +kernel
theorem dX4_move_42 : decode cX4_move 42 = .ok (.getfield 59, 3) := by decide +kernel
theorem dX4_move_45 : decode cX4_move 45 = .ok (.ifCond .le 5, 3) := by decide +kernel
theorem dX4_move_48 : decode cX4_move 48 = .ok (.iconst 0, 1) := by decide +kernel
theorem dX4_move_49 : decode cX4_move 49 = .ok (.ireturn, 1) := by decide +kernel
theorem dX4_move_50 : decode cX4_move 50 = .ok (.aload_n 0, 1) := by decide +kernel
theorem dX4_move_51 : decode cX4_move 51 = .ok (.getfield 25, 3) := by decide +kernel
theorem dX4_move_54 : decode cX4_move 54 = .ok (.iload_n 1, 1) := by decide +kernel
theorem dX4_move_55 : decode cX4_move 55 = .ok (.iaload, 1) := by decide +kernel
theorem dX4_move_56 : decode cX4_move 56 = .ok (.istore_n 3, 1) := by decide +kernel
theorem dX4_move_57 : decode cX4_move 57 = .ok (.aload_n 0, 1) := by decide +kernel
theorem dX4_move_58 : decode cX4_move 58 = .ok (.getfield 25, 3) := by decide +kernel
theorem dX4_move_61 : decode cX4_move 61 = .ok (.iload_n 1, 1) := by decide +kernel
theorem dX4_move_62 : decode cX4_move 62 = .ok (.iload_n 2, 1) := by decide +kernel
theorem dX4_move_63 : decode cX4_move 63 = .ok (.iastore, 1) := by decide +kernel
theorem dX4_move_64 : decode cX4_move 64 = .ok (.aload_n 0, 1) := by decide +kernel
theorem dX4_move_65 : decode cX4_move 65 = .ok (.invokevirtual 107, 3) := by decide +kernel
theorem dX4_move_68 : decode cX4_move 68 = .ok (.ifCond .ne 7, 3) := by decide +kernel
theorem dX4_move_71 : decode cX4_move 71 = .ok (.iconst 1, 1) := by decide +kernel
theorem dX4_move_72 : decode cX4_move 72 = .ok (.goto 4, 3) := by decide +kernel
theorem dX4_move_75 : decode cX4_move 75 = .ok (.iconst 0, 1) := by decide +kernel
theorem dX4_move_76 : decode cX4_move 76 = .ok (.istore 4, 2) := by decide +kernel
theorem dX4_move_78 : decode cX4_move 78 = .ok (.aload_n 0, 1) := by decide +kernel
theorem dX4_move_79 : decode cX4_move 79 = .ok (.getfield 25, 3) := by decide +kernel
theorem dX4_move_82 : decode cX4_move 82 = .ok (.iload_n 1, 1) := by decide +kernel
theorem dX4_move_83 : decode cX4_move 83 = .ok (.iload 4, 2) := by decide +kernel
theorem dX4_move_85 : decode cX4_move 85 = .ok (.ifCond .eq 7, 3) := by decide +kernel
theorem dX4_move_88 : decode cX4_move 88 = .ok (.iload_n 2, 1) := by decide +kernel
theorem dX4_move_89 : decode cX4_move 89 = .ok (.goto 4, 3) := by decide +kernel
theorem dX4_move_92 : decode cX4_move 92 = .ok (.iload_n 3, 1) := by decide +kernel
theorem dX4_move_93 : decode cX4_move 93 = .ok (.iastore, 1) := by decide +kernel
theorem dX4_move_94 : decode cX4_move 94 = .ok (.iload 4, 2) := by decide +kernel
theorem dX4_move_96 : decode cX4_move 96 = .ok (.ireturn, 1) := by decide +kernel
theorem dX4_drop_0 : decode cX4_drop 0 = .ok (.aload_n 0, 1) := by decide +kernel
theorem dX4_drop_1 : decode cX4_drop 1 = .ok (.aload_n 0, 1) := by decide +kernel
theorem dX4_drop_2 : decode cX4_drop 2 = .ok (.iload_n 1, 1) := by decide +kernel
theorem dX4_drop_3 : decode cX4_drop 3 = .ok (.invokevirtual 118, 3) := by decide +kernel
theorem dX4_drop_6 : decode cX4_drop 6 = .ok (.ifCond .ne 7, 3) := by decide +kernel
theorem dX4_drop_9 : decode cX4_drop 9 = .ok (.iconst 1, 1) := by decide +kernel
theorem dX4_drop_10 : decode cX4_drop 10 = .ok (.goto 17, 3) := by decide +kernel
theorem dX4_drop_13 : decode cX4_drop 13 = .ok (.aload_n 0, 1) := by decide +kernel
theorem dX4_drop_14 : decode cX4_drop 14 = .ok (.getfield 43, 3) := by decide +kernel
theorem dX4_drop_17 : decode cX4_drop 17 = .ok (.iload_n 1, 1) := by decide +kernel
theorem dX4_drop_18 : decode cX4_drop 18 = .ok (.baload, 1) := by decide +kernel
theorem dX4_drop_19 : decode cX4_drop 19 = .ok (.ifCond .eq 7, 3) := by decide +kernel
theorem dX4_drop_22 : decode cX4_drop 22 = .ok (.iconst 0, 1) := by decide +kernel
theorem dX4_drop_23 : decode cX4_drop 23 = .ok (.goto 4, 3) := by decide +kernel
theorem dX4_drop_26 : decode cX4_drop 26 = .ok (.iconst 2, 1) := by decide +kernel
theorem dX4_drop_27 : decode cX4_drop 27 = .ok (.putfield 59, 3) := by decide +kernel
theorem dX4_drop_30 : decode cX4_drop 30 = .ok (.aload_n 0, 1) := by decide +kernel
theorem dX4_drop_31 : decode cX4_drop 31 = .ok (.getfield 59, 3) := by decide +kernel
theorem dX4_drop_34 : decode cX4_drop 34 = .ok (.ifCond .ne 10, 3) := by decide +kernel
theorem dX4_drop_37 : decode cX4_drop 37 = .ok (.aload_n 0, 1) := by decide +kernel
theorem dX4_drop_38 : decode cX4_drop 38 = .ok (.getfield 43, 3) := by decide +kernel
theorem dX4_drop_41 : decode cX4_drop 41 = .ok (.iload_n 1, 1) := by decide +kernel
theorem dX4_drop_42 : decode cX4_drop 42 = .ok (.iconst 0, 1) := by decide +kernel
theorem dX4_drop_43 : decode cX4_drop 43 = .ok (.bastore, 1) := by decide +kernel
theorem dX4_drop_44 : decode cX4_drop 44 = .ok (.return_, 1) := by decide +kernel
theorem dX4_start_0 : decode cX4_start 0 = .ok (.aload_n 0, 1) := by decide +kernel
theorem dX4_start_1 : decode cX4_start 1 = .ok (.aload_n 0, 1) := by decide +kernel
theorem dX4_start_2 : decode cX4_start 2 = .ok (.iload_n 1, 1) := by decide +kernel
theorem dX4_start_3 : decode cX4_start 3 = .ok (.invokevirtual 118, 3) := by decide +kernel
theorem dX4_start_6 : decode cX4_start 6 = .ok (.ifCond .eq 7, 3) := by decide +kernel
theorem dX4_start_9 : decode cX4_start 9 = .ok (.iconst 0, 1) := by decide +kernel
theorem dX4_start_10 : decode cX4_start 10 = .ok (.goto 4, 3) := by decide +kernel
theorem dX4_start_13 : decode cX4_start 13 = .ok (.iconst 1, 1) := by decide +kernel
theorem dX4_start_14 : decode cX4_start 14 = .ok (.putfield 59, 3) := by decide +kernel
theorem dX4_start_17 : decode cX4_start 17 = .ok (.aload_n 0, 1) := by decide +kernel
theorem dX4_start_18 : decode cX4_start 18 = .ok (.getfield 59, 3) := by decide +kernel
theorem dX4_start_21 : decode cX4_start 21 = .ok (.ifCond .le 7, 3) := by decide +kernel
theorem dX4_start_24 : decode cX4_start 24 = .ok (.iconst 0, 1) := by decide +kernel
theorem dX4_start_25 : decode cX4_start 25 = .ok (.goto 22, 3) := by decide +kernel
theorem dX4_start_28 : decode cX4_start 28 = .ok (.aload_n 0, 1) := by decide +kernel
theorem dX4_start_29 : decode cX4_start 29 = .ok (.getfield 43, 3) := by decide +kernel
theorem dX4_start_32 : decode cX4_start 32 = .ok (.iload_n 1, 1) := by decide +kernel
theorem dX4_start_33 : decode cX4_start 33 = .ok (.baload, 1) := by decide +kernel
theorem dX4_start_34 : decode cX4_start 34 = .ok (.ifCond .eq 12, 3) := by decide +kernel
theorem dX4_start_37 : decode cX4_start 37 = .ok (.aload_n 0, 1) := by decide +kernel
theorem dX4_start_38 : decode cX4_start 38 = .ok (.getfield 25, 3) := by decide +kernel
theorem dX4_start_41 : decode cX4_start 41 = .ok (.iload_n 1, 1) := by decide +kernel
theorem dX4_start_42 : decode cX4_start 42 = .ok (.iaload, 1) := by decide +kernel
theorem dX4_start_43 : decode cX4_start 43 = .ok (.goto 4, 3) := by decide +kernel
theorem dX4_start_46 : decode cX4_start 46 = .ok (.iconst (-1), 1) := by decide +kernel
theorem dX4_start_47 : decode cX4_start 47 = .ok (.ireturn, 1) := by decide +kernel
theorem dX4_finds_0 : decode cX4_finds 0 = .ok (.aload_n 0, 1) := by decide +kernel
theorem dX4_finds_1 : decode cX4_finds 1 = .ok (.getfield 25, 3) := by decide +kernel
theorem dX4_finds_4 : decode cX4_finds 4 = .ok (.iload_n 1, 1) := by decide +kernel
theorem dX4_finds_5 : decode cX4_finds 5 = .ok (.iaload, 1) := by decide +kernel
theorem dX4_finds_6 : decode cX4_finds 6 = .ok (.istore_n 3, 1) := by decide +kernel
theorem dX4_finds_7 : decode cX4_finds 7 = .ok (.iconst (-1), 1) := by decide +kernel
theorem dX4_finds_8 : decode cX4_finds 8 = .ok (.istore 4, 2) := by decide +kernel
theorem dX4_finds_10 : decode cX4_finds 10 = .ok (.iload_n 2, 1) := by decide +kernel
theorem dX4_finds_11 : decode cX4_finds 11 = .ok (.istore 5, 2) := by decide +kernel
theorem dX4_finds_13 : decode cX4_finds 13 = .ok (.iload 5, 2) := by decide +kernel
theorem dX4_finds_15 : decode cX4_finds 15 = .ok (.aload_n 0, 1) := by decide +kernel
theorem dX4_finds_16 : decode cX4_finds 16 = .ok (.getfield 28, 3) := by decide +kernel
theorem dX4_finds_19 : decode cX4_finds 19 = .ok (.iload_n 1, 1) := by decide +kernel
theorem dX4_finds_20 : decode cX4_finds 20 = .ok (.iaload, 1) := by decide +kernel
theorem dX4_finds_21 : decode cX4_finds 21 = .ok (.iadd, 1) := by decide +kernel
theorem dX4_finds_22 : decode cX4_finds 22 = .ok (.sipush 1000, 3) := by decide +kernel
theorem dX4_finds_25 : decode cX4_finds 25 = .ok (.if_icmp .gt 37, 3) := by decide +kernel
theorem dX4_finds_28 : decode cX4_finds 28 = .ok (.iload 4, 2) := by decide +kernel
theorem dX4_finds_30 : decode cX4_finds 30 = .ok (.ifCond .ge 32, 3) := by decide +kernel
theorem dX4_finds_33 : decode cX4_finds 33 = .ok (.aload_n 0, 1) := by decide +kernel
theorem dX4_finds_34 : decode cX4_finds 34 = .ok (.getfield 25, 3) := by decide +kernel
theorem dX4_finds_37 : decode cX4_finds 37 = .ok (.iload_n 1, 1) := by decide +kernel
theorem dX4_finds_38 : decode cX4_finds 38 = .ok (.iload 5, 2) := by decide +kernel
theorem dX4_finds_40 : decode cX4_finds 40 = .ok (.iastore, 1) := by decide +kernel
theorem dX4_finds_41 : decode cX4_finds 41 = .ok (.aload_n 0, 1) := by decide +kernel
theorem dX4_finds_42 : decode cX4_finds 42 = .ok (.invokevirtual 107, 3) := by decide +kernel
theorem dX4_finds_45 : decode cX4_finds 45 = .ok (.ifCond .ne 8, 3) := by decide +kernel
theorem dX4_finds_48 : decode cX4_finds 48 = .ok (.iload 5, 2) := by decide +kernel
theorem dX4_finds_50 : decode cX4_finds 50 = .ok (.goto 4, 3) := by decide +kernel
theorem dX4_finds_53 : decode cX4_finds 53 = .ok (.iconst (-1), 1) := by decide +kernel
theorem dX4_finds_54 : decode cX4_finds 54 = .ok (.istore 4, 2) := by decide +kernel
theorem dX4_finds_56 : decode cX4_finds 56 = .ok (.iinc 5 1, 3) := by decide +kernel
theorem dX4_finds_59 : decode cX4_finds 59 = .ok (.goto (-46), 3) := by decide +kernel
theorem dX4_finds_62 : decode cX4_finds 62 = .ok (.aload_n 0, 1) := by decide +kernel
theorem dX4_finds_63 : decode cX4_finds 63 = .ok (.getfield 25, 3) := by decide +kernel
theorem dX4_finds_66 : decode cX4_finds 66 = .ok (.iload_n 1, 1) := by decide +kernel
theorem dX4_finds_67 : decode cX4_finds 67 = .ok (.iload_n 3, 1) := by decide +kernel
theorem dX4_finds_68 : decode cX4_finds 68 = .ok (.iastore, 1) := by decide +kernel
theorem dX4_finds_69 : decode cX4_finds 69 = .ok (.iload 4, 2) := by decide +kernel
theorem dX4_finds_71 : decode cX4_finds 71 = .ok (.ireturn, 1) := by decide +kernel
theorem dX4_firstStart_0 : decode cX4_firstStart 0 = .ok (.aload_n 0, 1) := by decide +kernel
theorem dX4_firstStart_1 : decode cX4_firstStart 1 = .ok (.aload_n 0, 1) := by decide +kernel
theorem dX4_firstStart_2 : decode cX4_firstStart 2 = .ok (.iload_n 1, 1) := by decide +kernel
theorem dX4_firstStart_3 : decode cX4_firstStart 3 = .ok (.invokevirtual 118, 3) := by decide +kernel
theorem dX4_firstStart_6 : decode cX4_firstStart 6 = .ok (.ifCond .ne 7, 3) := by decide +kernel
theorem dX4_firstStart_9 : decode cX4_firstStart 9 = .ok (.iconst 1, 1) := by decide +kernel
theorem dX4_firstStart_10 : decode cX4_firstStart 10 = .ok (.goto 28, 3) := by decide +kernel
theorem dX4_firstStart_13 : decode cX4_firstStart 13 = .ok (.iload_n 2, 1) := by decide +kernel
theorem dX4_firstStart_14 : decode cX4_firstStart 14 = .ok (.invokestatic 101, 3) := by decide +kernel
theorem dX4_firstStart_17 : decode cX4_firstStart 17 = .ok (.ifCond .ne 7, 3) := by decide +kernel
theorem dX4_firstStart_20 : decode cX4_firstStart 20 = .ok (.iconst 2, 1) := by decide +kernel
theorem dX4_firstStart_21 : decode cX4_firstStart 21 = .ok (.goto 17, 3) := by decide +kernel
theorem dX4_firstStart_24 : decode cX4_firstStart 24 = .ok (.aload_n 0, 1) := by decide +kernel
theorem dX4_firstStart_25 : decode cX4_firstStart 25 = .ok (.getfield 43, 3) := by decide +kernel
theorem dX4_firstStart_28 : decode cX4_firstStart 28 = .ok (.iload_n 1, 1) := by decide +kernel
theorem dX4_firstStart_29 : decode cX4_firstStart 29 = .ok (.baload, 1) := by decide +kernel
theorem dX4_firstStart_30 : decode cX4_firstStart 30 = .ok (.ifCond .eq 7, 3) := by decide +kernel
theorem dX4_firstStart_33 : decode cX4_firstStart 33 = .ok (.iconst 0, 1) := by decide +kernel
theorem dX4_firstStart_34 : decode cX4_firstStart 34 = .ok (.goto 4, 3) := by decide +kernel
theorem dX4_firstStart_37 : decode cX4_firstStart 37 = .ok (.iconst 3, 1) := by decide +kernel
theorem dX4_firstStart_38 : decode cX4_firstStart 38 = .ok (.putfield 59, 3) := by decide +kernel
theorem dX4_firstStart_41 : decode cX4_firstStart 41 = .ok (.aload_n 0, 1) := by decide +kernel
theorem dX4_firstStart_42 : decode cX4_firstStart 42 = .ok (.getfield 59, 3) := by decide +kernel
theorem dX4_firstStart_45 : decode cX4_firstStart 45 = .ok (.ifCond .le 7, 3) := by decide +kernel
theorem dX4_firstStart_48 : decode cX4_firstStart 48 = .ok (.iconst 0, 1) := by decide +kernel
theorem dX4_firstStart_49 : decode cX4_firstStart 49 = .ok (.goto 9, 3) := by decide +kernel
theorem dX4_firstStart_52 : decode cX4_firstStart 52 = .ok (.aload_n 0, 1) := by decide +kernel
theorem dX4_firstStart_53 : decode cX4_firstStart 53 = .ok (.iload_n 1, 1) := by decide +kernel
theorem dX4_firstStart_54 : decode cX4_firstStart 54 = .ok (.iload_n 2, 1) := by decide +kernel
theorem dX4_firstStart_55 : decode cX4_firstStart 55 = .ok (.invokevirtual 121, 3) := by decide +kernel
theorem dX4_firstStart_58 : decode cX4_firstStart 58 = .ok (.ireturn, 1) := by decide +kernel
theorem dX4_type_0 : decode cX4_type 0 = .ok (.aload_n 0, 1) := by decide +kernel
theorem dX4_type_1 : decode cX4_type 1 = .ok (.iload_n 1, 1) := by decide +kernel
theorem dX4_type_2 : decode cX4_type 2 = .ok (.bipush 97, 2) := by decide +kernel
theorem dX4_type_4 : decode cX4_type 4 = .ok (.bipush 122, 2) := by decide +kernel
theorem dX4_type_6 : decode cX4_type 6 = .ok (.invokestatic 63, 3) := by decide +kernel
theorem dX4_type_9 : decode cX4_type 9 = .ok (.ifCond .ne 7, 3) := by decide +kernel
theorem dX4_type_12 : decode cX4_type 12 = .ok (.iconst 1, 1) := by decide +kernel
theorem dX4_type_13 : decode cX4_type 13 = .ok (.goto 17, 3) := by decide +kernel
theorem dX4_type_16 : decode cX4_type 16 = .ok (.aload_n 0, 1) := by decide +kernel
theorem dX4_type_17 : decode cX4_type 17 = .ok (.getfield 124, 3) := by decide +kernel
theorem dX4_type_20 : decode cX4_type 20 = .ok (.bipush 6, 2) := by decide +kernel
theorem dX4_type_22 : decode cX4_type 22 = .ok (.if_icmp .ne 7, 3) := by decide +kernel
theorem dX4_type_25 : decode cX4_type 25 = .ok (.iconst 2, 1) := by decide +kernel
theorem dX4_type_26 : decode cX4_type 26 = .ok (.goto 4, 3) := by decide +kernel
theorem dX4_type_29 : decode cX4_type 29 = .ok (.iconst 0, 1) := by decide +kernel
theorem dX4_type_30 : decode cX4_type 30 = .ok (.putfield 59, 3) := by decide +kernel
theorem dX4_type_33 : decode cX4_type 33 = .ok (.aload_n 0, 1) := by decide +kernel
theorem dX4_type_34 : decode cX4_type 34 = .ok (.getfield 59, 3) := by decide +kernel
theorem dX4_type_37 : decode cX4_type 37 = .ok (.ifCond .le 5, 3) := by decide +kernel
theorem dX4_type_40 : decode cX4_type 40 = .ok (.iconst 0, 1) := by decide +kernel
theorem dX4_type_41 : decode cX4_type 41 = .ok (.ireturn, 1) := by decide +kernel
theorem dX4_type_42 : decode cX4_type 42 = .ok (.aload_n 0, 1) := by decide +kernel
theorem dX4_type_43 : decode cX4_type 43 = .ok (.bipush 27, 2) := by decide +kernel
theorem dX4_type_45 : decode cX4_type 45 = .ok (.aload_n 0, 1) := by decide +kernel
theorem dX4_type_46 : decode cX4_type 46 = .ok (.getfield 127, 3) := by decide +kernel
theorem dX4_type_49 : decode cX4_type 49 = .ok (.imul, 1) := by decide +kernel
theorem dX4_type_50 : decode cX4_type 50 = .ok (.iload_n 1, 1) := by decide +kernel
theorem dX4_type_51 : decode cX4_type 51 = .ok (.iadd, 1) := by decide +kernel
theorem dX4_type_52 : decode cX4_type 52 = .ok (.bipush 97, 2) := by decide +kernel
theorem dX4_type_54 : decode cX4_type 54 = .ok (.isub, 1) := by decide +kernel
theorem dX4_type_55 : decode cX4_type 55 = .ok (.iconst 1, 1) := by decide +kernel
theorem dX4_type_56 : decode cX4_type 56 = .ok (.iadd, 1) := by decide +kernel
theorem dX4_type_57 : decode cX4_type 57 = .ok (.putfield 127, 3) := by decide +kernel
theorem dX4_type_60 : decode cX4_type 60 = .ok (.aload_n 0, 1) := by decide +kernel
theorem dX4_type_61 : decode cX4_type 61 = .ok (.dup, 1) := by decide +kernel
theorem dX4_type_62 : decode cX4_type 62 = .ok (.getfield 124, 3) := by decide +kernel
theorem dX4_type_65 : decode cX4_type 65 = .ok (.iconst 1, 1) := by decide +kernel
theorem dX4_type_66 : decode cX4_type 66 = .ok (.iadd, 1) := by decide +kernel
theorem dX4_type_67 : decode cX4_type 67 = .ok (.putfield 124, 3) := by decide +kernel
theorem dX4_type_70 : decode cX4_type 70 = .ok (.aload_n 0, 1) := by decide +kernel
theorem dX4_type_71 : decode cX4_type 71 = .ok (.getfield 124, 3) := by decide +kernel
theorem dX4_type_74 : decode cX4_type 74 = .ok (.ireturn, 1) := by decide +kernel
theorem dX4_wipe_0 : decode cX4_wipe 0 = .ok (.aload_n 0, 1) := by decide +kernel
theorem dX4_wipe_1 : decode cX4_wipe 1 = .ok (.iconst 0, 1) := by decide +kernel
theorem dX4_wipe_2 : decode cX4_wipe 2 = .ok (.putfield 59, 3) := by decide +kernel
theorem dX4_wipe_5 : decode cX4_wipe 5 = .ok (.aload_n 0, 1) := by decide +kernel
theorem dX4_wipe_6 : decode cX4_wipe 6 = .ok (.getfield 124, 3) := by decide +kernel
theorem dX4_wipe_9 : decode cX4_wipe 9 = .ok (.istore_n 1, 1) := by decide +kernel
theorem dX4_wipe_10 : decode cX4_wipe 10 = .ok (.aload_n 0, 1) := by decide +kernel
theorem dX4_wipe_11 : decode cX4_wipe 11 = .ok (.iconst 0, 1) := by decide +kernel
theorem dX4_wipe_12 : decode cX4_wipe 12 = .ok (.putfield 127, 3) := by decide +kernel
theorem dX4_wipe_15 : decode cX4_wipe 15 = .ok (.aload_n 0, 1) := by decide +kernel
theorem dX4_wipe_16 : decode cX4_wipe 16 = .ok (.iconst 0, 1) := by decide +kernel
theorem dX4_wipe_17 : decode cX4_wipe 17 = .ok (.putfield 124, 3) := by decide +kernel
theorem dX4_wipe_20 : decode cX4_wipe 20 = .ok (.iload_n 1, 1) := by decide +kernel
theorem dX4_wipe_21 : decode cX4_wipe 21 = .ok (.ireturn, 1) := by decide +kernel
theorem dX4_spelt_0 : decode cX4_spelt 0 = .ok (.bipush 27, 2) := by decide +kernel
theorem dX4_spelt_2 : decode cX4_spelt 2 = .ok (.bipush 27, 2) := by decide +kernel
theorem dX4_spelt_4 : decode cX4_spelt 4 = .ok (.bipush 27, 2) := by decide +kernel
theorem dX4_spelt_6 : decode cX4_spelt 6 = .ok (.iload_n 0, 1) := by decide +kernel
theorem dX4_spelt_7 : decode cX4_spelt 7 = .ok (.bipush 96, 2) := by decide +kernel
theorem dX4_spelt_9 : decode cX4_spelt 9 = .ok (.isub, 1) := by decide +kernel
theorem dX4_spelt_10 : decode cX4_spelt 10 = .ok (.imul, 1) := by decide +kernel
theorem dX4_spelt_11 : decode cX4_spelt 11 = .ok (.iload_n 1, 1) := by decide +kernel
theorem dX4_spelt_12 : decode cX4_spelt 12 = .ok (.iadd, 1) := by decide +kernel
theorem dX4_spelt_13 : decode cX4_spelt 13 = .ok (.bipush 96, 2) := by decide +kernel
theorem dX4_spelt_15 : decode cX4_spelt 15 = .ok (.isub, 1) := by decide +kernel
theorem dX4_spelt_16 : decode cX4_spelt 16 = .ok (.imul, 1) := by decide +kernel
theorem dX4_spelt_17 : decode cX4_spelt 17 = .ok (.iload_n 2, 1) := by decide +kernel
theorem dX4_spelt_18 : decode cX4_spelt 18 = .ok (.iadd, 1) := by decide +kernel
theorem dX4_spelt_19 : decode cX4_spelt 19 = .ok (.bipush 96, 2) := by decide +kernel
theorem dX4_spelt_21 : decode cX4_spelt 21 = .ok (.isub, 1) := by decide +kernel
theorem dX4_spelt_22 : decode cX4_spelt 22 = .ok (.imul, 1) := by decide +kernel
theorem dX4_spelt_23 : decode cX4_spelt 23 = .ok (.iload_n 3, 1) := by decide +kernel
theorem dX4_spelt_24 : decode cX4_spelt 24 = .ok (.iadd, 1) := by decide +kernel
theorem dX4_spelt_25 : decode cX4_spelt 25 = .ok (.bipush 96, 2) := by decide +kernel
theorem dX4_spelt_27 : decode cX4_spelt 27 = .ok (.isub, 1) := by decide +kernel
theorem dX4_spelt_28 : decode cX4_spelt 28 = .ok (.istore 5, 2) := by decide +kernel
theorem dX4_spelt_30 : decode cX4_spelt 30 = .ok (.iload 4, 2) := by decide +kernel
theorem dX4_spelt_32 : decode cX4_spelt 32 = .ok (.bipush 97, 2) := by decide +kernel
theorem dX4_spelt_34 : decode cX4_spelt 34 = .ok (.if_icmp .ge 8, 3) := by decide +kernel
theorem dX4_spelt_37 : decode cX4_spelt 37 = .ok (.iload 5, 2) := by decide +kernel
theorem dX4_spelt_39 : decode cX4_spelt 39 = .ok (.goto 14, 3) := by decide +kernel
theorem dX4_spelt_42 : decode cX4_spelt 42 = .ok (.bipush 27, 2) := by decide +kernel
theorem dX4_spelt_44 : decode cX4_spelt 44 = .ok (.iload 5, 2) := by decide +kernel
theorem dX4_spelt_46 : decode cX4_spelt 46 = .ok (.imul, 1) := by decide +kernel
theorem dX4_spelt_47 : decode cX4_spelt 47 = .ok (.iload 4, 2) := by decide +kernel
theorem dX4_spelt_49 : decode cX4_spelt 49 = .ok (.iadd, 1) := by decide +kernel
theorem dX4_spelt_50 : decode cX4_spelt 50 = .ok (.bipush 96, 2) := by decide +kernel
theorem dX4_spelt_52 : decode cX4_spelt 52 = .ok (.isub, 1) := by decide +kernel
theorem dX4_spelt_53 : decode cX4_spelt 53 = .ok (.ireturn, 1) := by decide +kernel
theorem dX4_wish_0 : decode cX4_wish 0 = .ok (.sipush 990, 3) := by decide +kernel
theorem dX4_wish_3 : decode cX4_wish 3 = .ok (.istore_n 1, 1) := by decide +kernel
theorem dX4_wish_4 : decode cX4_wish 4 = .ok (.aload_n 0, 1) := by decide +kernel
theorem dX4_wish_5 : decode cX4_wish 5 = .ok (.getfield 127, 3) := by decide +kernel
theorem dX4_wish_8 : decode cX4_wish 8 = .ok (.bipush 108, 2) := by decide +kernel
theorem dX4_wish_10 : decode cX4_wish 10 = .ok (.bipush 105, 2) := by decide +kernel
theorem dX4_wish_12 : decode cX4_wish 12 = .ok (.bipush 103, 2) := by decide +kernel
theorem dX4_wish_14 : decode cX4_wish 14 = .ok (.bipush 104, 2) := by decide +kernel
theorem dX4_wish_16 : decode cX4_wish 16 = .ok (.bipush 116, 2) := by decide +kernel
theorem dX4_wish_18 : decode cX4_wish 18 = .ok (.invokestatic 130, 3) := by decide +kernel
theorem dX4_wish_21 : decode cX4_wish 21 = .ok (.if_icmp .ne 7, 3) := by decide +kernel
theorem dX4_wish_24 : decode cX4_wish 24 = .ok (.iconst 0, 1) := by decide +kernel
theorem dX4_wish_25 : decode cX4_wish 25 = .ok (.goto 88, 3) := by decide +kernel
theorem dX4_wish_28 : decode cX4_wish 28 = .ok (.aload_n 0, 1) := by decide +kernel
theorem dX4_wish_29 : decode cX4_wish 29 = .ok (.getfield 127, 3) := by decide +kernel
theorem dX4_wish_32 : decode cX4_wish 32 = .ok (.bipush 100, 2) := by decide +kernel
theorem dX4_wish_34 : decode cX4_wish 34 = .ok (.bipush 97, 2) := by decide +kernel
theorem dX4_wish_36 : decode cX4_wish 36 = .ok (.bipush 114, 2) := by decide +kernel
theorem dX4_wish_38 : decode cX4_wish 38 = .ok (.bipush 107, 2) := by decide +kernel
theorem dX4_wish_40 : decode cX4_wish 40 = .ok (.bipush 32, 2) := by decide +kernel
theorem dX4_wish_42 : decode cX4_wish 42 = .ok (.invokestatic 130, 3) := by decide +kernel
theorem dX4_wish_45 : decode cX4_wish 45 = .ok (.if_icmp .ne 7, 3) := by decide +kernel
theorem dX4_wish_48 : decode cX4_wish 48 = .ok (.iconst 1, 1) := by decide +kernel
theorem dX4_wish_49 : decode cX4_wish 49 = .ok (.goto 64, 3) := by decide +kernel
theorem dX4_wish_52 : decode cX4_wish 52 = .ok (.aload_n 0, 1) := by decide +kernel
theorem dX4_wish_53 : decode cX4_wish 53 = .ok (.getfield 127, 3) := by decide +kernel
theorem dX4_wish_56 : decode cX4_wish 56 = .ok (.bipush 108, 2) := by decide +kernel
theorem dX4_wish_58 : decode cX4_wish 58 = .ok (.bipush 111, 2) := by decide +kernel
theorem dX4_wish_60 : decode cX4_wish 60 = .ok (.bipush 117, 2) := by decide +kernel
theorem dX4_wish_62 : decode cX4_wish 62 = .ok (.bipush 100, 2) := by decide +kernel
theorem dX4_wish_64 : decode cX4_wish 64 = .ok (.bipush 32, 2) := by decide +kernel
theorem dX4_wish_66 : decode cX4_wish 66 = .ok (.invokestatic 130, 3) := by decide +kernel
theorem dX4_wish_69 : decode cX4_wish 69 = .ok (.if_icmp .ne 7, 3) := by decide +kernel
theorem dX4_wish_72 : decode cX4_wish 72 = .ok (.iconst 2, 1) := by decide +kernel
theorem dX4_wish_73 : decode cX4_wish 73 = .ok (.goto 40, 3) := by decide +kernel
theorem dX4_wish_76 : decode cX4_wish 76 = .ok (.aload_n 0, 1) := by decide +kernel
theorem dX4_wish_77 : decode cX4_wish 77 = .ok (.getfield 127, 3) := by decide +kernel
theorem dX4_wish_80 : decode cX4_wish 80 = .ok (.bipush 115, 2) := by decide +kernel
theorem dX4_wish_82 : decode cX4_wish 82 = .ok (.bipush 111, 2) := by decide +kernel
theorem dX4_wish_84 : decode cX4_wish 84 = .ok (.bipush 102, 2) := by decide +kernel
theorem dX4_wish_86 : decode cX4_wish 86 = .ok (.bipush 116, 2) := by decide +kernel
theorem dX4_wish_88 : decode cX4_wish 88 = .ok (.bipush 32, 2) := by decide +kernel
theorem dX4_wish_90 : decode cX4_wish 90 = .ok (.invokestatic 130, 3) := by decide +kernel
theorem dX4_wish_93 : decode cX4_wish 93 = .ok (.if_icmp .ne 7, 3) := by decide +kernel
theorem dX4_wish_96 : decode cX4_wish 96 = .ok (.iconst 3, 1) := by decide +kernel
theorem dX4_wish_97 : decode cX4_wish 97 = .ok (.goto 16, 3) := by decide +kernel
theorem dX4_wish_100 : decode cX4_wish 100 = .ok (.aload_n 0, 1) := by decide +kernel
theorem dX4_wish_101 : decode cX4_wish 101 = .ok (.getfield 127, 3) := by decide +kernel
theorem dX4_wish_104 : decode cX4_wish 104 = .ok (.iload_n 1, 1) := by decide +kernel
theorem dX4_wish_105 : decode cX4_wish 105 = .ok (.if_icmp .ne 7, 3) := by decide +kernel
theorem dX4_wish_108 : decode cX4_wish 108 = .ok (.iconst 4, 1) := by decide +kernel
theorem dX4_wish_109 : decode cX4_wish 109 = .ok (.goto 4, 3) := by decide +kernel
theorem dX4_wish_112 : decode cX4_wish 112 = .ok (.iconst (-1), 1) := by decide +kernel
theorem dX4_wish_113 : decode cX4_wish 113 = .ok (.ireturn, 1) := by decide +kernel
theorem dX4_bounded_0 : decode cX4_bounded 0 = .ok (.iload_n 0, 1) := by decide +kernel
theorem dX4_bounded_1 : decode cX4_bounded 1 = .ok (.ifCond .ge 7, 3) := by decide +kernel
theorem dX4_bounded_4 : decode cX4_bounded 4 = .ok (.iconst 0, 1) := by decide +kernel
theorem dX4_bounded_5 : decode cX4_bounded 5 = .ok (.goto 17, 3) := by decide +kernel
theorem dX4_bounded_8 : decode cX4_bounded 8 = .ok (.iload_n 0, 1) := by decide +kernel
theorem dX4_bounded_9 : decode cX4_bounded 9 = .ok (.sipush 200, 3) := by decide +kernel
theorem dX4_bounded_12 : decode cX4_bounded 12 = .ok (.if_icmp .le 9, 3) := by decide +kernel
theorem dX4_bounded_15 : decode cX4_bounded 15 = .ok (.sipush 200, 3) := by decide +kernel
theorem dX4_bounded_18 : decode cX4_bounded 18 = .ok (.goto 4, 3) := by decide +kernel
theorem dX4_bounded_21 : decode cX4_bounded 21 = .ok (.iload_n 0, 1) := by decide +kernel
theorem dX4_bounded_22 : decode cX4_bounded 22 = .ok (.ireturn, 1) := by decide +kernel
theorem dX4_grant_0 : decode cX4_grant 0 = .ok (.aload_n 0, 1) := by decide +kernel
theorem dX4_grant_1 : decode cX4_grant 1 = .ok (.invokevirtual 134, 3) := by decide +kernel
theorem dX4_grant_4 : decode cX4_grant 4 = .ok (.istore_n 2, 1) := by decide +kernel
theorem dX4_grant_5 : decode cX4_grant 5 = .ok (.aload_n 0, 1) := by decide +kernel
theorem dX4_grant_6 : decode cX4_grant 6 = .ok (.aload_n 0, 1) := by decide +kernel
theorem dX4_grant_7 : decode cX4_grant 7 = .ok (.iload_n 1, 1) := by decide +kernel
theorem dX4_grant_8 : decode cX4_grant 8 = .ok (.invokevirtual 118, 3) := by decide +kernel
theorem dX4_grant_11 : decode cX4_grant 11 = .ok (.ifCond .ne 7, 3) := by decide +kernel
theorem dX4_grant_14 : decode cX4_grant 14 = .ok (.iconst 1, 1) := by decide +kernel
theorem dX4_grant_15 : decode cX4_grant 15 = .ok (.goto 21, 3) := by decide +kernel
theorem dX4_grant_18 : decode cX4_grant 18 = .ok (.aload_n 0, 1) := by decide +kernel
theorem dX4_grant_19 : decode cX4_grant 19 = .ok (.getfield 43, 3) := by decide +kernel
theorem dX4_grant_22 : decode cX4_grant 22 = .ok (.iload_n 1, 1) := by decide +kernel
theorem dX4_grant_23 : decode cX4_grant 23 = .ok (.baload, 1) := by decide +kernel
theorem dX4_grant_24 : decode cX4_grant 24 = .ok (.ifCond .eq 11, 3) := by decide +kernel
theorem dX4_grant_27 : decode cX4_grant 27 = .ok (.iload_n 2, 1) := by decide +kernel
theorem dX4_grant_28 : decode cX4_grant 28 = .ok (.ifCond .lt 7, 3) := by decide +kernel
theorem dX4_grant_31 : decode cX4_grant 31 = .ok (.iconst 0, 1) := by decide +kernel
theorem dX4_grant_32 : decode cX4_grant 32 = .ok (.goto 4, 3) := by decide +kernel
theorem dX4_grant_35 : decode cX4_grant 35 = .ok (.iconst 2, 1) := by decide +kernel
theorem dX4_grant_36 : decode cX4_grant 36 = .ok (.putfield 59, 3) := by decide +kernel
theorem dX4_grant_39 : decode cX4_grant 39 = .ok (.aload_n 0, 1) := by decide +kernel
theorem dX4_grant_40 : decode cX4_grant 40 = .ok (.getfield 59, 3) := by decide +kernel
theorem dX4_grant_43 : decode cX4_grant 43 = .ok (.ifCond .le 5, 3) := by decide +kernel
theorem dX4_grant_46 : decode cX4_grant 46 = .ok (.iconst 0, 1) := by decide +kernel
theorem dX4_grant_47 : decode cX4_grant 47 = .ok (.ireturn, 1) := by decide +kernel
theorem dX4_grant_48 : decode cX4_grant 48 = .ok (.aload_n 0, 1) := by decide +kernel
theorem dX4_grant_49 : decode cX4_grant 49 = .ok (.getfield 34, 3) := by decide +kernel
theorem dX4_grant_52 : decode cX4_grant 52 = .ok (.iload_n 1, 1) := by decide +kernel
theorem dX4_grant_53 : decode cX4_grant 53 = .ok (.iaload, 1) := by decide +kernel
theorem dX4_grant_54 : decode cX4_grant 54 = .ok (.istore_n 3, 1) := by decide +kernel
theorem dX4_grant_55 : decode cX4_grant 55 = .ok (.aload_n 0, 1) := by decide +kernel
theorem dX4_grant_56 : decode cX4_grant 56 = .ok (.getfield 37, 3) := by decide +kernel
theorem dX4_grant_59 : decode cX4_grant 59 = .ok (.iload_n 1, 1) := by decide +kernel
theorem dX4_grant_60 : decode cX4_grant 60 = .ok (.iaload, 1) := by decide +kernel
theorem dX4_grant_61 : decode cX4_grant 61 = .ok (.istore 4, 2) := by decide +kernel
theorem dX4_grant_63 : decode cX4_grant 63 = .ok (.aload_n 0, 1) := by decide +kernel
theorem dX4_grant_64 : decode cX4_grant 64 = .ok (.getfield 40, 3) := by decide +kernel
theorem dX4_grant_67 : decode cX4_grant 67 = .ok (.iload_n 1, 1) := by decide +kernel
theorem dX4_grant_68 : decode cX4_grant 68 = .ok (.iaload, 1) := by decide +kernel
theorem dX4_grant_69 : decode cX4_grant 69 = .ok (.istore 5, 2) := by decide +kernel
theorem dX4_grant_71 : decode cX4_grant 71 = .ok (.aload_n 0, 1) := by decide +kernel
theorem dX4_grant_72 : decode cX4_grant 72 = .ok (.getfield 34, 3) := by decide +kernel
theorem dX4_grant_75 : decode cX4_grant 75 = .ok (.iload_n 1, 1) := by decide +kernel
theorem dX4_grant_76 : decode cX4_grant 76 = .ok (.iload_n 2, 1) := by decide +kernel
theorem dX4_grant_77 : decode cX4_grant 77 = .ok (.ifCond .ne 10, 3) := by decide +kernel
theorem dX4_grant_80 : decode cX4_grant 80 = .ok (.iload_n 3, 1) := by decide +kernel
theorem dX4_grant_81 : decode cX4_grant 81 = .ok (.bipush 20, 2) := by decide +kernel
theorem dX4_grant_83 : decode cX4_grant 83 = .ok (.iadd, 1) := by decide +kernel
theorem dX4_grant_84 : decode cX4_grant 84 = .ok (.goto 16, 3) := by decide +kernel
theorem dX4_grant_87 : decode cX4_grant 87 = .ok (.iload_n 2, 1) := by decide +kernel
theorem dX4_grant_88 : decode cX4_grant 88 = .ok (.iconst 1, 1) := by decide +kernel
theorem dX4_grant_89 : decode cX4_grant 89 = .ok (.if_icmp .ne 10, 3) := by decide +kernel
theorem dX4_grant_92 : decode cX4_grant 92 = .ok (.iload_n 3, 1) := by decide +kernel
theorem dX4_grant_93 : decode cX4_grant 93 = .ok (.bipush 20, 2) := by decide +kernel
theorem dX4_grant_95 : decode cX4_grant 95 = .ok (.isub, 1) := by decide +kernel
theorem dX4_grant_96 : decode cX4_grant 96 = .ok (.goto 4, 3) := by decide +kernel
theorem dX4_grant_99 : decode cX4_grant 99 = .ok (.iload_n 3, 1) := by decide +kernel
theorem dX4_grant_100 : decode cX4_grant 100 = .ok (.invokestatic 137, 3) := by decide +kernel
theorem dX4_grant_103 : decode cX4_grant 103 = .ok (.iastore, 1) := by decide +kernel
theorem dX4_grant_104 : decode cX4_grant 104 = .ok (.aload_n 0, 1) := by decide +kernel
theorem dX4_grant_105 : decode cX4_grant 105 = .ok (.getfield 37, 3) := by decide +kernel
theorem dX4_grant_108 : decode cX4_grant 108 = .ok (.iload_n 1, 1) := by decide +kernel
theorem dX4_grant_109 : decode cX4_grant 109 = .ok (.iload_n 2, 1) := by decide +kernel
theorem dX4_grant_110 : decode cX4_grant 110 = .ok (.iconst 2, 1) := by decide +kernel
theorem dX4_grant_111 : decode cX4_grant 111 = .ok (.if_icmp .ne 10, 3) := by decide +kernel
theorem dX4_grant_114 : decode cX4_grant 114 = .ok (.iload 4, 2) := by decide +kernel
theorem dX4_grant_116 : decode cX4_grant 116 = .ok (.iconst 5, 1) := by decide +kernel
theorem dX4_grant_117 : decode cX4_grant 117 = .ok (.iadd, 1) := by decide +kernel
theorem dX4_grant_118 : decode cX4_grant 118 = .ok (.goto 17, 3) := by decide +kernel
theorem dX4_grant_121 : decode cX4_grant 121 = .ok (.iload_n 2, 1) := by decide +kernel
theorem dX4_grant_122 : decode cX4_grant 122 = .ok (.iconst 3, 1) := by decide +kernel
theorem dX4_grant_123 : decode cX4_grant 123 = .ok (.if_icmp .ne 10, 3) := by decide +kernel
theorem dX4_grant_126 : decode cX4_grant 126 = .ok (.iload 4, 2) := by decide +kernel
theorem dX4_grant_128 : decode cX4_grant 128 = .ok (.iconst 5, 1) := by decide +kernel
theorem dX4_grant_129 : decode cX4_grant 129 = .ok (.isub, 1) := by decide +kernel
theorem dX4_grant_130 : decode cX4_grant 130 = .ok (.goto 5, 3) := by decide +kernel
theorem dX4_grant_133 : decode cX4_grant 133 = .ok (.iload 4, 2) := by decide +kernel
theorem dX4_grant_135 : decode cX4_grant 135 = .ok (.invokestatic 137, 3) := by decide +kernel
theorem dX4_grant_138 : decode cX4_grant 138 = .ok (.iastore, 1) := by decide +kernel
theorem dX4_grant_139 : decode cX4_grant 139 = .ok (.aload_n 0, 1) := by decide +kernel
theorem dX4_grant_140 : decode cX4_grant 140 = .ok (.getfield 40, 3) := by decide +kernel
theorem dX4_grant_143 : decode cX4_grant 143 = .ok (.iload_n 1, 1) := by decide +kernel
theorem dX4_grant_144 : decode cX4_grant 144 = .ok (.iload_n 2, 1) := by decide +kernel
theorem dX4_grant_145 : decode cX4_grant 145 = .ok (.iconst 4, 1) := by decide +kernel
theorem dX4_grant_146 : decode cX4_grant 146 = .ok (.if_icmp .ge 8, 3) := by decide +kernel
theorem dX4_grant_149 : decode cX4_grant 149 = .ok (.iload 5, 2) := by decide +kernel
theorem dX4_grant_151 : decode cX4_grant 151 = .ok (.goto 18, 3) := by decide +kernel
theorem dX4_grant_154 : decode cX4_grant 154 = .ok (.iload 5, 2) := by decide +kernel
theorem dX4_grant_156 : decode cX4_grant 156 = .ok (.bipush 31, 2) := by decide +kernel
theorem dX4_grant_158 : decode cX4_grant 158 = .ok (.if_icmp .ne 7, 3) := by decide +kernel
theorem dX4_grant_161 : decode cX4_grant 161 = .ok (.iconst (-1), 1) := by decide +kernel
theorem dX4_grant_162 : decode cX4_grant 162 = .ok (.goto 7, 3) := by decide +kernel
theorem dX4_grant_165 : decode cX4_grant 165 = .ok (.iload 5, 2) := by decide +kernel
theorem dX4_grant_167 : decode cX4_grant 167 = .ok (.iconst 1, 1) := by decide +kernel
theorem dX4_grant_168 : decode cX4_grant 168 = .ok (.iadd, 1) := by decide +kernel
theorem dX4_grant_169 : decode cX4_grant 169 = .ok (.iastore, 1) := by decide +kernel
theorem dX4_grant_170 : decode cX4_grant 170 = .ok (.aload_n 0, 1) := by decide +kernel
theorem dX4_grant_171 : decode cX4_grant 171 = .ok (.invokevirtual 107, 3) := by decide +kernel
theorem dX4_grant_174 : decode cX4_grant 174 = .ok (.ifCond .ne 7, 3) := by decide +kernel
theorem dX4_grant_177 : decode cX4_grant 177 = .ok (.iconst 1, 1) := by decide +kernel
theorem dX4_grant_178 : decode cX4_grant 178 = .ok (.goto 4, 3) := by decide +kernel
theorem dX4_grant_181 : decode cX4_grant 181 = .ok (.iconst 0, 1) := by decide +kernel
theorem dX4_grant_182 : decode cX4_grant 182 = .ok (.istore 6, 2) := by decide +kernel
theorem dX4_grant_184 : decode cX4_grant 184 = .ok (.iload 6, 2) := by decide +kernel
theorem dX4_grant_186 : decode cX4_grant 186 = .ok (.ifCond .ne 26, 3) := by decide +kernel
theorem dX4_grant_189 : decode cX4_grant 189 = .ok (.aload_n 0, 1) := by decide +kernel
theorem dX4_grant_190 : decode cX4_grant 190 = .ok (.getfield 34, 3) := by decide +kernel
theorem dX4_grant_193 : decode cX4_grant 193 = .ok (.iload_n 1, 1) := by decide +kernel
theorem dX4_grant_194 : decode cX4_grant 194 = .ok (.iload_n 3, 1) := by decide +kernel
theorem dX4_grant_195 : decode cX4_grant 195 = .ok (.iastore, 1) := by decide +kernel
theorem dX4_grant_196 : decode cX4_grant 196 = .ok (.aload_n 0, 1) := by decide +kernel
theorem dX4_grant_197 : decode cX4_grant 197 = .ok (.getfield 37, 3) := by decide +kernel
theorem dX4_grant_200 : decode cX4_grant 200 = .ok (.iload_n 1, 1) := by decide +kernel
theorem dX4_grant_201 : decode cX4_grant 201 = .ok (.iload 4, 2) := by decide +kernel
theorem dX4_grant_203 : decode cX4_grant 203 = .ok (.iastore, 1) := by decide +kernel
theorem dX4_grant_204 : decode cX4_grant 204 = .ok (.aload_n 0, 1) := by decide +kernel
theorem dX4_grant_205 : decode cX4_grant 205 = .ok (.getfield 40, 3) := by decide +kernel
theorem dX4_grant_208 : decode cX4_grant 208 = .ok (.iload_n 1, 1) := by decide +kernel
theorem dX4_grant_209 : decode cX4_grant 209 = .ok (.iload 5, 2) := by decide +kernel
theorem dX4_grant_211 : decode cX4_grant 211 = .ok (.iastore, 1) := by decide +kernel
theorem dX4_grant_212 : decode cX4_grant 212 = .ok (.iload 6, 2) := by decide +kernel
theorem dX4_grant_214 : decode cX4_grant 214 = .ok (.ireturn, 1) := by decide +kernel
theorem dX4_ofAct_0 : decode cX4_ofAct 0 = .ok (.aload_n 0, 1) := by decide +kernel
theorem dX4_ofAct_1 : decode cX4_ofAct 1 = .ok (.aload_n 0, 1) := by decide +kernel
theorem dX4_ofAct_2 : decode cX4_ofAct 2 = .ok (.iload_n 1, 1) := by decide +kernel
theorem dX4_ofAct_3 : decode cX4_ofAct 3 = .ok (.invokevirtual 118, 3) := by decide +kernel
theorem dX4_ofAct_6 : decode cX4_ofAct 6 = .ok (.ifCond .eq 14, 3) := by decide +kernel
theorem dX4_ofAct_9 : decode cX4_ofAct 9 = .ok (.iload_n 2, 1) := by decide +kernel
theorem dX4_ofAct_10 : decode cX4_ofAct 10 = .ok (.invokestatic 104, 3) := by decide +kernel
theorem dX4_ofAct_13 : decode cX4_ofAct 13 = .ok (.ifCond .eq 7, 3) := by decide +kernel
theorem dX4_ofAct_16 : decode cX4_ofAct 16 = .ok (.iconst 0, 1) := by decide +kernel
theorem dX4_ofAct_17 : decode cX4_ofAct 17 = .ok (.goto 4, 3) := by decide +kernel
theorem dX4_ofAct_20 : decode cX4_ofAct 20 = .ok (.iconst 1, 1) := by decide +kernel
theorem dX4_ofAct_21 : decode cX4_ofAct 21 = .ok (.putfield 59, 3) := by decide +kernel
theorem dX4_ofAct_24 : decode cX4_ofAct 24 = .ok (.aload_n 0, 1) := by decide +kernel
theorem dX4_ofAct_25 : decode cX4_ofAct 25 = .ok (.getfield 59, 3) := by decide +kernel
theorem dX4_ofAct_28 : decode cX4_ofAct 28 = .ok (.ifCond .le 7, 3) := by decide +kernel
theorem dX4_ofAct_31 : decode cX4_ofAct 31 = .ok (.iconst 0, 1) := by decide +kernel
theorem dX4_ofAct_32 : decode cX4_ofAct 32 = .ok (.goto 36, 3) := by decide +kernel
theorem dX4_ofAct_35 : decode cX4_ofAct 35 = .ok (.iload_n 2, 1) := by decide +kernel
theorem dX4_ofAct_36 : decode cX4_ofAct 36 = .ok (.ifCond .ne 12, 3) := by decide +kernel
theorem dX4_ofAct_39 : decode cX4_ofAct 39 = .ok (.aload_n 0, 1) := by decide +kernel
theorem dX4_ofAct_40 : decode cX4_ofAct 40 = .ok (.getfield 34, 3) := by decide +kernel
theorem dX4_ofAct_43 : decode cX4_ofAct 43 = .ok (.iload_n 1, 1) := by decide +kernel
theorem dX4_ofAct_44 : decode cX4_ofAct 44 = .ok (.iaload, 1) := by decide +kernel
theorem dX4_ofAct_45 : decode cX4_ofAct 45 = .ok (.goto 23, 3) := by decide +kernel
theorem dX4_ofAct_48 : decode cX4_ofAct 48 = .ok (.iload_n 2, 1) := by decide +kernel
theorem dX4_ofAct_49 : decode cX4_ofAct 49 = .ok (.iconst 1, 1) := by decide +kernel
theorem dX4_ofAct_50 : decode cX4_ofAct 50 = .ok (.if_icmp .ne 12, 3) := by decide +kernel
theorem dX4_ofAct_53 : decode cX4_ofAct 53 = .ok (.aload_n 0, 1) := by decide +kernel
theorem dX4_ofAct_54 : decode cX4_ofAct 54 = .ok (.getfield 37, 3) := by decide +kernel
theorem dX4_ofAct_57 : decode cX4_ofAct 57 = .ok (.iload_n 1, 1) := by decide +kernel
theorem dX4_ofAct_58 : decode cX4_ofAct 58 = .ok (.iaload, 1) := by decide +kernel
theorem dX4_ofAct_59 : decode cX4_ofAct 59 = .ok (.goto 9, 3) := by decide +kernel
theorem dX4_ofAct_62 : decode cX4_ofAct 62 = .ok (.aload_n 0, 1) := by decide +kernel
theorem dX4_ofAct_63 : decode cX4_ofAct 63 = .ok (.getfield 40, 3) := by decide +kernel
theorem dX4_ofAct_66 : decode cX4_ofAct 66 = .ok (.iload_n 1, 1) := by decide +kernel
theorem dX4_ofAct_67 : decode cX4_ofAct 67 = .ok (.iaload, 1) := by decide +kernel
theorem dX4_ofAct_68 : decode cX4_ofAct 68 = .ok (.ireturn, 1) := by decide +kernel
theorem dX4_next_0 : decode cX4_next 0 = .ok (.iconst (-1), 1) := by decide +kernel
theorem dX4_next_1 : decode cX4_next 1 = .ok (.istore_n 3, 1) := by decide +kernel
theorem dX4_next_2 : decode cX4_next 2 = .ok (.iconst 0, 1) := by decide +kernel
theorem dX4_next_3 : decode cX4_next 3 = .ok (.istore 4, 2) := by decide +kernel
theorem dX4_next_5 : decode cX4_next 5 = .ok (.iload 4, 2) := by decide +kernel
theorem dX4_next_7 : decode cX4_next 7 = .ok (.aload_n 0, 1) := by decide +kernel
theorem dX4_next_8 : decode cX4_next 8 = .ok (.getfield 111, 3) := by decide +kernel
theorem dX4_next_11 : decode cX4_next 11 = .ok (.if_icmp .ge 69, 3) := by decide +kernel
theorem dX4_next_14 : decode cX4_next 14 = .ok (.iload_n 1, 1) := by decide +kernel
theorem dX4_next_15 : decode cX4_next 15 = .ok (.iload 4, 2) := by decide +kernel
theorem dX4_next_17 : decode cX4_next 17 = .ok (.ishr, 1) := by decide +kernel
theorem dX4_next_18 : decode cX4_next 18 = .ok (.iconst 1, 1) := by decide +kernel
theorem dX4_next_19 : decode cX4_next 19 = .ok (.iand, 1) := by decide +kernel
theorem dX4_next_20 : decode cX4_next 20 = .ok (.iconst 1, 1) := by decide +kernel
theorem dX4_next_21 : decode cX4_next 21 = .ok (.if_icmp .ne 18, 3) := by decide +kernel
theorem dX4_next_24 : decode cX4_next 24 = .ok (.aload_n 0, 1) := by decide +kernel
theorem dX4_next_25 : decode cX4_next 25 = .ok (.getfield 25, 3) := by decide +kernel
theorem dX4_next_28 : decode cX4_next 28 = .ok (.iload 4, 2) := by decide +kernel
theorem dX4_next_30 : decode cX4_next 30 = .ok (.iaload, 1) := by decide +kernel
theorem dX4_next_31 : decode cX4_next 31 = .ok (.iload_n 2, 1) := by decide +kernel
theorem dX4_next_32 : decode cX4_next 32 = .ok (.if_icmp .le 7, 3) := by decide +kernel
theorem dX4_next_35 : decode cX4_next 35 = .ok (.iconst 1, 1) := by decide +kernel
theorem dX4_next_36 : decode cX4_next 36 = .ok (.goto 4, 3) := by decide +kernel
theorem dX4_next_39 : decode cX4_next 39 = .ok (.iconst 0, 1) := by decide +kernel
theorem dX4_next_40 : decode cX4_next 40 = .ok (.istore 5, 2) := by decide +kernel
theorem dX4_next_42 : decode cX4_next 42 = .ok (.iload 5, 2) := by decide +kernel
theorem dX4_next_44 : decode cX4_next 44 = .ok (.ifCond .eq 28, 3) := by decide +kernel
theorem dX4_next_47 : decode cX4_next 47 = .ok (.iload_n 3, 1) := by decide +kernel
theorem dX4_next_48 : decode cX4_next 48 = .ok (.ifCond .lt 19, 3) := by decide +kernel
theorem dX4_next_51 : decode cX4_next 51 = .ok (.aload_n 0, 1) := by decide +kernel
theorem dX4_next_52 : decode cX4_next 52 = .ok (.getfield 25, 3) := by decide +kernel
theorem dX4_next_55 : decode cX4_next 55 = .ok (.iload 4, 2) := by decide +kernel
theorem dX4_next_57 : decode cX4_next 57 = .ok (.iaload, 1) := by decide +kernel
theorem dX4_next_58 : decode cX4_next 58 = .ok (.aload_n 0, 1) := by decide +kernel
theorem dX4_next_59 : decode cX4_next 59 = .ok (.getfield 25, 3) := by decide +kernel
theorem dX4_next_62 : decode cX4_next 62 = .ok (.iload_n 3, 1) := by decide +kernel
theorem dX4_next_63 : decode cX4_next 63 = .ok (.iaload, 1) := by decide +kernel
theorem dX4_next_64 : decode cX4_next 64 = .ok (.if_icmp .ge 8, 3) := by decide +kernel
theorem dX4_next_67 : decode cX4_next 67 = .ok (.iload 4, 2) := by decide +kernel
theorem dX4_next_69 : decode cX4_next 69 = .ok (.goto 4, 3) := by decide +kernel
theorem dX4_next_72 : decode cX4_next 72 = .ok (.iload_n 3, 1) := by decide +kernel
theorem dX4_next_73 : decode cX4_next 73 = .ok (.istore_n 3, 1) := by decide +kernel
theorem dX4_next_74 : decode cX4_next 74 = .ok (.iinc 4 1, 3) := by decide +kernel
theorem dX4_next_77 : decode cX4_next 77 = .ok (.goto (-72), 3) := by decide +kernel
theorem dX4_next_80 : decode cX4_next 80 = .ok (.iload_n 3, 1) := by decide +kernel
theorem dX4_next_81 : decode cX4_next 81 = .ok (.ireturn, 1) := by decide +kernel
theorem dX4_storm_0 : decode cX4_storm 0 = .ok (.aload_n 0, 1) := by decide +kernel
theorem dX4_storm_1 : decode cX4_storm 1 = .ok (.iload_n 1, 1) := by decide +kernel
theorem dX4_storm_2 : decode cX4_storm 2 = .ok (.invokestatic 104, 3) := by decide +kernel
theorem dX4_storm_5 : decode cX4_storm 5 = .ok (.ifCond .ne 7, 3) := by decide +kernel
theorem dX4_storm_8 : decode cX4_storm 8 = .ok (.iconst 1, 1) := by decide +kernel
theorem dX4_storm_9 : decode cX4_storm 9 = .ok (.goto 38, 3) := by decide +kernel
theorem dX4_storm_12 : decode cX4_storm 12 = .ok (.iload_n 2, 1) := by decide +kernel
theorem dX4_storm_13 : decode cX4_storm 13 = .ok (.invokestatic 101, 3) := by decide +kernel
theorem dX4_storm_16 : decode cX4_storm 16 = .ok (.ifCond .eq 14, 3) := by decide +kernel
theorem dX4_storm_19 : decode cX4_storm 19 = .ok (.iload_n 3, 1) := by decide +kernel
theorem dX4_storm_20 : decode cX4_storm 20 = .ok (.iconst 1, 1) := by decide +kernel
theorem dX4_storm_21 : decode cX4_storm 21 = .ok (.sipush 200, 3) := by decide +kernel
theorem dX4_storm_24 : decode cX4_storm 24 = .ok (.invokestatic 63, 3) := by decide +kernel
theorem dX4_storm_27 : decode cX4_storm 27 = .ok (.ifCond .ne 7, 3) := by decide +kernel
theorem dX4_storm_30 : decode cX4_storm 30 = .ok (.iconst 2, 1) := by decide +kernel
theorem dX4_storm_31 : decode cX4_storm 31 = .ok (.goto 16, 3) := by decide +kernel
theorem dX4_storm_34 : decode cX4_storm 34 = .ok (.aload_n 0, 1) := by decide +kernel
theorem dX4_storm_35 : decode cX4_storm 35 = .ok (.getfield 71, 3) := by decide +kernel
theorem dX4_storm_38 : decode cX4_storm 38 = .ok (.iconst 5, 1) := by decide +kernel
theorem dX4_storm_39 : decode cX4_storm 39 = .ok (.if_icmp .ne 7, 3) := by decide +kernel
theorem dX4_storm_42 : decode cX4_storm 42 = .ok (.iconst 3, 1) := by decide +kernel
theorem dX4_storm_43 : decode cX4_storm 43 = .ok (.goto 4, 3) := by decide +kernel
theorem dX4_storm_46 : decode cX4_storm 46 = .ok (.iconst 0, 1) := by decide +kernel
theorem dX4_storm_47 : decode cX4_storm 47 = .ok (.putfield 59, 3) := by decide +kernel
theorem dX4_storm_50 : decode cX4_storm 50 = .ok (.aload_n 0, 1) := by decide +kernel
theorem dX4_storm_51 : decode cX4_storm 51 = .ok (.getfield 59, 3) := by decide +kernel
theorem dX4_storm_54 : decode cX4_storm 54 = .ok (.ifCond .le 5, 3) := by decide +kernel
theorem dX4_storm_57 : decode cX4_storm 57 = .ok (.iconst 0, 1) := by decide +kernel
theorem dX4_storm_58 : decode cX4_storm 58 = .ok (.ireturn, 1) := by decide +kernel
theorem dX4_storm_59 : decode cX4_storm 59 = .ok (.iload_n 2, 1) := by decide +kernel
theorem dX4_storm_60 : decode cX4_storm 60 = .ok (.iload_n 3, 1) := by decide +kernel
theorem dX4_storm_61 : decode cX4_storm 61 = .ok (.iadd, 1) := by decide +kernel
theorem dX4_storm_62 : decode cX4_storm 62 = .ok (.sipush 1000, 3) := by decide +kernel
theorem dX4_storm_65 : decode cX4_storm 65 = .ok (.if_icmp .le 9, 3) := by decide +kernel
theorem dX4_storm_68 : decode cX4_storm 68 = .ok (.sipush 1000, 3) := by decide +kernel
theorem dX4_storm_71 : decode cX4_storm 71 = .ok (.goto 6, 3) := by decide +kernel
theorem dX4_storm_74 : decode cX4_storm 74 = .ok (.iload_n 2, 1) := by decide +kernel
theorem dX4_storm_75 : decode cX4_storm 75 = .ok (.iload_n 3, 1) := by decide +kernel
theorem dX4_storm_76 : decode cX4_storm 76 = .ok (.iadd, 1) := by decide +kernel
theorem dX4_storm_77 : decode cX4_storm 77 = .ok (.istore 4, 2) := by decide +kernel
theorem dX4_storm_79 : decode cX4_storm 79 = .ok (.aload_n 0, 1) := by decide +kernel
theorem dX4_storm_80 : decode cX4_storm 80 = .ok (.getfield 47, 3) := by decide +kernel
theorem dX4_storm_83 : decode cX4_storm 83 = .ok (.aload_n 0, 1) := by decide +kernel
theorem dX4_storm_84 : decode cX4_storm 84 = .ok (.getfield 71, 3) := by decide +kernel
theorem dX4_storm_87 : decode cX4_storm 87 = .ok (.iload_n 1, 1) := by decide +kernel
theorem dX4_storm_88 : decode cX4_storm 88 = .ok (.iastore, 1) := by decide +kernel
theorem dX4_storm_89 : decode cX4_storm 89 = .ok (.aload_n 0, 1) := by decide +kernel
theorem dX4_storm_90 : decode cX4_storm 90 = .ok (.getfield 50, 3) := by decide +kernel
theorem dX4_storm_93 : decode cX4_storm 93 = .ok (.aload_n 0, 1) := by decide +kernel
theorem dX4_storm_94 : decode cX4_storm 94 = .ok (.getfield 71, 3) := by decide +kernel
theorem dX4_storm_97 : decode cX4_storm 97 = .ok (.iload_n 2, 1) := by decide +kernel
theorem dX4_storm_98 : decode cX4_storm 98 = .ok (.iastore, 1) := by decide +kernel
theorem dX4_storm_99 : decode cX4_storm 99 = .ok (.aload_n 0, 1) := by decide +kernel
theorem dX4_storm_100 : decode cX4_storm 100 = .ok (.getfield 53, 3) := by decide +kernel
theorem dX4_storm_103 : decode cX4_storm 103 = .ok (.aload_n 0, 1) := by decide +kernel
theorem dX4_storm_104 : decode cX4_storm 104 = .ok (.getfield 71, 3) := by decide +kernel
theorem dX4_storm_107 : decode cX4_storm 107 = .ok (.iload 4, 2) := by decide +kernel
theorem dX4_storm_109 : decode cX4_storm 109 = .ok (.iastore, 1) := by decide +kernel
theorem dX4_storm_110 : decode cX4_storm 110 = .ok (.aload_n 0, 1) := by decide +kernel
theorem dX4_storm_111 : decode cX4_storm 111 = .ok (.dup, 1) := by decide +kernel
theorem dX4_storm_112 : decode cX4_storm 112 = .ok (.getfield 71, 3) := by decide +kernel
theorem dX4_storm_115 : decode cX4_storm 115 = .ok (.iconst 1, 1) := by decide +kernel
theorem dX4_storm_116 : decode cX4_storm 116 = .ok (.iadd, 1) := by decide +kernel
theorem dX4_storm_117 : decode cX4_storm 117 = .ok (.putfield 71, 3) := by decide +kernel
theorem dX4_storm_120 : decode cX4_storm 120 = .ok (.iconst 0, 1) := by decide +kernel
theorem dX4_storm_121 : decode cX4_storm 121 = .ok (.istore 5, 2) := by decide +kernel
theorem dX4_storm_123 : decode cX4_storm 123 = .ok (.iconst 0, 1) := by decide +kernel
theorem dX4_storm_124 : decode cX4_storm 124 = .ok (.istore 6, 2) := by decide +kernel
theorem dX4_storm_126 : decode cX4_storm 126 = .ok (.iload 6, 2) := by decide +kernel
theorem dX4_storm_128 : decode cX4_storm 128 = .ok (.aload_n 0, 1) := by decide +kernel
theorem dX4_storm_129 : decode cX4_storm 129 = .ok (.getfield 111, 3) := by decide +kernel
theorem dX4_storm_132 : decode cX4_storm 132 = .ok (.if_icmp .ge 106, 3) := by decide +kernel
theorem dX4_storm_135 : decode cX4_storm 135 = .ok (.aload_n 0, 1) := by decide +kernel
theorem dX4_storm_136 : decode cX4_storm 136 = .ok (.getfield 43, 3) := by decide +kernel
theorem dX4_storm_139 : decode cX4_storm 139 = .ok (.iload 6, 2) := by decide +kernel
theorem dX4_storm_141 : decode cX4_storm 141 = .ok (.baload, 1) := by decide +kernel
theorem dX4_storm_142 : decode cX4_storm 142 = .ok (.ifCond .eq 49, 3) := by decide +kernel
theorem dX4_storm_145 : decode cX4_storm 145 = .ok (.aload_n 0, 1) := by decide +kernel
theorem dX4_storm_146 : decode cX4_storm 146 = .ok (.getfield 22, 3) := by decide +kernel
theorem dX4_storm_149 : decode cX4_storm 149 = .ok (.iload 6, 2) := by decide +kernel
theorem dX4_storm_151 : decode cX4_storm 151 = .ok (.iaload, 1) := by decide +kernel
theorem dX4_storm_152 : decode cX4_storm 152 = .ok (.iload_n 1, 1) := by decide +kernel
theorem dX4_storm_153 : decode cX4_storm 153 = .ok (.if_icmp .ne 38, 3) := by decide +kernel
theorem dX4_storm_156 : decode cX4_storm 156 = .ok (.aload_n 0, 1) := by decide +kernel
theorem dX4_storm_157 : decode cX4_storm 157 = .ok (.getfield 25, 3) := by decide +kernel
theorem dX4_storm_160 : decode cX4_storm 160 = .ok (.iload 6, 2) := by decide +kernel
theorem dX4_storm_162 : decode cX4_storm 162 = .ok (.iaload, 1) := by decide +kernel
theorem dX4_storm_163 : decode cX4_storm 163 = .ok (.iload 4, 2) := by decide +kernel
theorem dX4_storm_165 : decode cX4_storm 165 = .ok (.if_icmp .ge 26, 3) := by decide +kernel
theorem dX4_storm_168 : decode cX4_storm 168 = .ok (.aload_n 0, 1) := by decide +kernel
theorem dX4_storm_169 : decode cX4_storm 169 = .ok (.getfield 25, 3) := by decide +kernel
theorem dX4_storm_172 : decode cX4_storm 172 = .ok (.iload 6, 2) := by decide +kernel
theorem dX4_storm_174 : decode cX4_storm 174 = .ok (.iaload, 1) := by decide +kernel
theorem dX4_storm_175 : decode cX4_storm 175 = .ok (.aload_n 0, 1) := by decide +kernel
theorem dX4_storm_176 : decode cX4_storm 176 = .ok (.getfield 28, 3) := by decide +kernel
theorem dX4_storm_179 : decode cX4_storm 179 = .ok (.iload 6, 2) := by decide +kernel
theorem dX4_storm_181 : decode cX4_storm 181 = .ok (.iaload, 1) := by decide +kernel
theorem dX4_storm_182 : decode cX4_storm 182 = .ok (.iadd, 1) := by decide +kernel
theorem dX4_storm_183 : decode cX4_storm 183 = .ok (.iload_n 2, 1) := by decide +kernel
theorem dX4_storm_184 : decode cX4_storm 184 = .ok (.if_icmp .le 7, 3) := by decide +kernel
theorem dX4_storm_187 : decode cX4_storm 187 = .ok (.iconst 1, 1) := by decide +kernel
theorem dX4_storm_188 : decode cX4_storm 188 = .ok (.goto 4, 3) := by decide +kernel
theorem dX4_storm_191 : decode cX4_storm 191 = .ok (.iconst 0, 1) := by decide +kernel
theorem dX4_storm_192 : decode cX4_storm 192 = .ok (.istore 7, 2) := by decide +kernel
theorem dX4_storm_194 : decode cX4_storm 194 = .ok (.iload 5, 2) := by decide +kernel
theorem dX4_storm_196 : decode cX4_storm 196 = .ok (.iload 7, 2) := by decide +kernel
theorem dX4_storm_198 : decode cX4_storm 198 = .ok (.ifCond .eq 10, 3) := by decide +kernel
theorem dX4_storm_201 : decode cX4_storm 201 = .ok (.iconst 1, 1) := by decide +kernel
theorem dX4_storm_202 : decode cX4_storm 202 = .ok (.iload 6, 2) := by decide +kernel
theorem dX4_storm_204 : decode cX4_storm 204 = .ok (.ishl, 1) := by decide +kernel
theorem dX4_storm_205 : decode cX4_storm 205 = .ok (.goto 4, 3) := by decide +kernel
theorem dX4_storm_208 : decode cX4_storm 208 = .ok (.iconst 0, 1) := by decide +kernel
theorem dX4_storm_209 : decode cX4_storm 209 = .ok (.ior, 1) := by decide +kernel
theorem dX4_storm_210 : decode cX4_storm 210 = .ok (.istore 5, 2) := by decide +kernel
theorem dX4_storm_212 : decode cX4_storm 212 = .ok (.aload_n 0, 1) := by decide +kernel
theorem dX4_storm_213 : decode cX4_storm 213 = .ok (.getfield 43, 3) := by decide +kernel
theorem dX4_storm_216 : decode cX4_storm 216 = .ok (.iload 6, 2) := by decide +kernel
theorem dX4_storm_218 : decode cX4_storm 218 = .ok (.dup2, 1) := by decide +kernel
theorem dX4_storm_219 : decode cX4_storm 219 = .ok (.baload, 1) := by decide +kernel
theorem dX4_storm_220 : decode cX4_storm 220 = .ok (.iload 7, 2) := by decide +kernel
theorem dX4_storm_222 : decode cX4_storm 222 = .ok (.ifCond .ne 7, 3) := by decide +kernel
theorem dX4_storm_225 : decode cX4_storm 225 = .ok (.iconst 1, 1) := by decide +kernel
theorem dX4_storm_226 : decode cX4_storm 226 = .ok (.goto 4, 3) := by decide +kernel
theorem dX4_storm_229 : decode cX4_storm 229 = .ok (.iconst 0, 1) := by decide +kernel
theorem dX4_storm_230 : decode cX4_storm 230 = .ok (.iand, 1) := by decide +kernel
theorem dX4_storm_231 : decode cX4_storm 231 = .ok (.bastore, 1) := by decide +kernel
theorem dX4_storm_232 : decode cX4_storm 232 = .ok (.iinc 6 1, 3) := by decide +kernel
theorem dX4_storm_235 : decode cX4_storm 235 = .ok (.goto (-109), 3) := by decide +kernel
theorem dX4_storm_238 : decode cX4_storm 238 = .ok (.iconst 0, 1) := by decide +kernel
theorem dX4_storm_239 : decode cX4_storm 239 = .ok (.istore 6, 2) := by decide +kernel
theorem dX4_storm_241 : decode cX4_storm 241 = .ok (.iconst (-1), 1) := by decide +kernel
theorem dX4_storm_242 : decode cX4_storm 242 = .ok (.istore 7, 2) := by decide +kernel
theorem dX4_storm_244 : decode cX4_storm 244 = .ok (.aload_n 0, 1) := by decide +kernel
theorem dX4_storm_245 : decode cX4_storm 245 = .ok (.iload 5, 2) := by decide +kernel
theorem dX4_storm_247 : decode cX4_storm 247 = .ok (.iload 7, 2) := by decide +kernel
theorem dX4_storm_249 : decode cX4_storm 249 = .ok (.invokevirtual 141, 3) := by decide +kernel
theorem dX4_storm_252 : decode cX4_storm 252 = .ok (.istore 8, 2) := by decide +kernel
theorem dX4_storm_254 : decode cX4_storm 254 = .ok (.iload 8, 2) := by decide +kernel
theorem dX4_storm_256 : decode cX4_storm 256 = .ok (.ifCond .lt 110, 3) := by decide +kernel
theorem dX4_storm_259 : decode cX4_storm 259 = .ok (.aload_n 0, 1) := by decide +kernel
theorem dX4_storm_260 : decode cX4_storm 260 = .ok (.getfield 25, 3) := by decide +kernel
theorem dX4_storm_263 : decode cX4_storm 263 = .ok (.iload 8, 2) := by decide +kernel
theorem dX4_storm_265 : decode cX4_storm 265 = .ok (.iaload, 1) := by decide +kernel
theorem dX4_storm_266 : decode cX4_storm 266 = .ok (.istore 7, 2) := by decide +kernel
theorem dX4_storm_268 : decode cX4_storm 268 = .ok (.iload 5, 2) := by decide +kernel
theorem dX4_storm_270 : decode cX4_storm 270 = .ok (.iconst 1, 1) := by decide +kernel
theorem dX4_storm_271 : decode cX4_storm 271 = .ok (.iload 8, 2) := by decide +kernel
theorem dX4_storm_273 : decode cX4_storm 273 = .ok (.ishl, 1) := by decide +kernel
theorem dX4_storm_274 : decode cX4_storm 274 = .ok (.iconst (-1), 1) := by decide +kernel
theorem dX4_storm_275 : decode cX4_storm 275 = .ok (.ixor, 1) := by decide +kernel
theorem dX4_storm_276 : decode cX4_storm 276 = .ok (.iand, 1) := by decide +kernel
theorem dX4_storm_277 : decode cX4_storm 277 = .ok (.istore 5, 2) := by decide +kernel
theorem dX4_storm_279 : decode cX4_storm 279 = .ok (.aload_n 0, 1) := by decide +kernel
theorem dX4_storm_280 : decode cX4_storm 280 = .ok (.getfield 43, 3) := by decide +kernel
theorem dX4_storm_283 : decode cX4_storm 283 = .ok (.iload 8, 2) := by decide +kernel
theorem dX4_storm_285 : decode cX4_storm 285 = .ok (.iconst 1, 1) := by decide +kernel
theorem dX4_storm_286 : decode cX4_storm 286 = .ok (.bastore, 1) := by decide +kernel
theorem dX4_storm_287 : decode cX4_storm 287 = .ok (.aload_n 0, 1) := by decide +kernel
theorem dX4_storm_288 : decode cX4_storm 288 = .ok (.iload 8, 2) := by decide +kernel
theorem dX4_storm_290 : decode cX4_storm 290 = .ok (.iload 4, 2) := by decide +kernel
theorem dX4_storm_292 : decode cX4_storm 292 = .ok (.invokevirtual 121, 3) := by decide +kernel
theorem dX4_storm_295 : decode cX4_storm 295 = .ok (.istore 9, 2) := by decide +kernel
theorem dX4_storm_297 : decode cX4_storm 297 = .ok (.aload_n 0, 1) := by decide +kernel
theorem dX4_storm_298 : decode cX4_storm 298 = .ok (.getfield 43, 3) := by decide +kernel
theorem dX4_storm_301 : decode cX4_storm 301 = .ok (.iload 8, 2) := by decide +kernel
theorem dX4_storm_303 : decode cX4_storm 303 = .ok (.iload 9, 2) := by decide +kernel
theorem dX4_storm_305 : decode cX4_storm 305 = .ok (.ifCond .lt 7, 3) := by decide +kernel
theorem dX4_storm_308 : decode cX4_storm 308 = .ok (.iconst 1, 1) := by decide +kernel
theorem dX4_storm_309 : decode cX4_storm 309 = .ok (.goto 4, 3) := by decide +kernel
theorem dX4_storm_312 : decode cX4_storm 312 = .ok (.iconst 0, 1) := by decide +kernel
theorem dX4_storm_313 : decode cX4_storm 313 = .ok (.bastore, 1) := by decide +kernel
theorem dX4_storm_314 : decode cX4_storm 314 = .ok (.aload_n 0, 1) := by decide +kernel
theorem dX4_storm_315 : decode cX4_storm 315 = .ok (.getfield 25, 3) := by decide +kernel
theorem dX4_storm_318 : decode cX4_storm 318 = .ok (.iload 8, 2) := by decide +kernel
theorem dX4_storm_320 : decode cX4_storm 320 = .ok (.iload 9, 2) := by decide +kernel
theorem dX4_storm_322 : decode cX4_storm 322 = .ok (.ifCond .lt 8, 3) := by decide +kernel
theorem dX4_storm_325 : decode cX4_storm 325 = .ok (.iload 9, 2) := by decide +kernel
theorem dX4_storm_327 : decode cX4_storm 327 = .ok (.goto 10, 3) := by decide +kernel
theorem dX4_storm_330 : decode cX4_storm 330 = .ok (.aload_n 0, 1) := by decide +kernel
theorem dX4_storm_331 : decode cX4_storm 331 = .ok (.getfield 25, 3) := by decide +kernel
theorem dX4_storm_334 : decode cX4_storm 334 = .ok (.iload 8, 2) := by decide +kernel
theorem dX4_storm_336 : decode cX4_storm 336 = .ok (.iaload, 1) := by decide +kernel
theorem dX4_storm_337 : decode cX4_storm 337 = .ok (.iastore, 1) := by decide +kernel
theorem dX4_storm_338 : decode cX4_storm 338 = .ok (.iload 6, 2) := by decide +kernel
theorem dX4_storm_340 : decode cX4_storm 340 = .ok (.iload 9, 2) := by decide +kernel
theorem dX4_storm_342 : decode cX4_storm 342 = .ok (.ifCond .lt 7, 3) := by decide +kernel
theorem dX4_storm_345 : decode cX4_storm 345 = .ok (.iconst 0, 1) := by decide +kernel
theorem dX4_storm_346 : decode cX4_storm 346 = .ok (.goto 4, 3) := by decide +kernel
theorem dX4_storm_349 : decode cX4_storm 349 = .ok (.iconst 1, 1) := by decide +kernel
theorem dX4_storm_350 : decode cX4_storm 350 = .ok (.iadd, 1) := by decide +kernel
theorem dX4_storm_351 : decode cX4_storm 351 = .ok (.istore 6, 2) := by decide +kernel
theorem dX4_storm_353 : decode cX4_storm 353 = .ok (.aload_n 0, 1) := by decide +kernel
theorem dX4_storm_354 : decode cX4_storm 354 = .ok (.iload 5, 2) := by decide +kernel
theorem dX4_storm_356 : decode cX4_storm 356 = .ok (.iload 7, 2) := by decide +kernel
theorem dX4_storm_358 : decode cX4_storm 358 = .ok (.invokevirtual 141, 3) := by decide +kernel
theorem dX4_storm_361 : decode cX4_storm 361 = .ok (.istore 8, 2) := by decide +kernel
theorem dX4_storm_363 : decode cX4_storm 363 = .ok (.goto (-109), 3) := by decide +kernel
theorem dX4_storm_366 : decode cX4_storm 366 = .ok (.iload 6, 2) := by decide +kernel
theorem dX4_storm_368 : decode cX4_storm 368 = .ok (.ireturn, 1) := by decide +kernel
theorem dX4_load_0 : decode cX4_load 0 = .ok (.aload_n 0, 1) := by decide +kernel
theorem dX4_load_1 : decode cX4_load 1 = .ok (.iload_n 2, 1) := by decide +kernel
theorem dX4_load_2 : decode cX4_load 2 = .ok (.invokestatic 104, 3) := by decide +kernel
theorem dX4_load_5 : decode cX4_load 5 = .ok (.ifCond .ne 7, 3) := by decide +kernel
theorem dX4_load_8 : decode cX4_load 8 = .ok (.iconst 1, 1) := by decide +kernel
theorem dX4_load_9 : decode cX4_load 9 = .ok (.goto 15, 3) := by decide +kernel
theorem dX4_load_12 : decode cX4_load 12 = .ok (.iload_n 1, 1) := by decide +kernel
theorem dX4_load_13 : decode cX4_load 13 = .ok (.invokestatic 101, 3) := by decide +kernel
theorem dX4_load_16 : decode cX4_load 16 = .ok (.ifCond .eq 7, 3) := by decide +kernel
theorem dX4_load_19 : decode cX4_load 19 = .ok (.iconst 0, 1) := by decide +kernel
theorem dX4_load_20 : decode cX4_load 20 = .ok (.goto 4, 3) := by decide +kernel
theorem dX4_load_23 : decode cX4_load 23 = .ok (.iconst 2, 1) := by decide +kernel
theorem dX4_load_24 : decode cX4_load 24 = .ok (.putfield 59, 3) := by decide +kernel
theorem dX4_load_27 : decode cX4_load 27 = .ok (.aload_n 0, 1) := by decide +kernel
theorem dX4_load_28 : decode cX4_load 28 = .ok (.getfield 59, 3) := by decide +kernel
theorem dX4_load_31 : decode cX4_load 31 = .ok (.ifCond .le 7, 3) := by decide +kernel
theorem dX4_load_34 : decode cX4_load 34 = .ok (.iconst 0, 1) := by decide +kernel
theorem dX4_load_35 : decode cX4_load 35 = .ok (.goto 9, 3) := by decide +kernel
theorem dX4_load_38 : decode cX4_load 38 = .ok (.aload_n 0, 1) := by decide +kernel
theorem dX4_load_39 : decode cX4_load 39 = .ok (.iload_n 1, 1) := by decide +kernel
theorem dX4_load_40 : decode cX4_load 40 = .ok (.iload_n 2, 1) := by decide +kernel
theorem dX4_load_41 : decode cX4_load 41 = .ok (.invokevirtual 77, 3) := by decide +kernel
theorem dX4_load_44 : decode cX4_load 44 = .ok (.ireturn, 1) := by decide +kernel
theorem dX4_noise_0 : decode cX4_noise 0 = .ok (.aload_n 0, 1) := by decide +kernel
theorem dX4_noise_1 : decode cX4_noise 1 = .ok (.iload_n 2, 1) := by decide +kernel
theorem dX4_noise_2 : decode cX4_noise 2 = .ok (.invokestatic 104, 3) := by decide +kernel
theorem dX4_noise_5 : decode cX4_noise 5 = .ok (.ifCond .ne 7, 3) := by decide +kernel
theorem dX4_noise_8 : decode cX4_noise 8 = .ok (.iconst 1, 1) := by decide +kernel
theorem dX4_noise_9 : decode cX4_noise 9 = .ok (.goto 15, 3) := by decide +kernel
theorem dX4_noise_12 : decode cX4_noise 12 = .ok (.iload_n 1, 1) := by decide +kernel
theorem dX4_noise_13 : decode cX4_noise 13 = .ok (.invokestatic 101, 3) := by decide +kernel
theorem dX4_noise_16 : decode cX4_noise 16 = .ok (.ifCond .eq 7, 3) := by decide +kernel
theorem dX4_noise_19 : decode cX4_noise 19 = .ok (.iconst 0, 1) := by decide +kernel
theorem dX4_noise_20 : decode cX4_noise 20 = .ok (.goto 4, 3) := by decide +kernel
theorem dX4_noise_23 : decode cX4_noise 23 = .ok (.iconst 2, 1) := by decide +kernel
theorem dX4_noise_24 : decode cX4_noise 24 = .ok (.putfield 59, 3) := by decide +kernel
theorem dX4_noise_27 : decode cX4_noise 27 = .ok (.aload_n 0, 1) := by decide +kernel
theorem dX4_noise_28 : decode cX4_noise 28 = .ok (.getfield 59, 3) := by decide +kernel
theorem dX4_noise_31 : decode cX4_noise 31 = .ok (.ifCond .le 7, 3) := by decide +kernel
theorem dX4_noise_34 : decode cX4_noise 34 = .ok (.iconst 0, 1) := by decide +kernel
theorem dX4_noise_35 : decode cX4_noise 35 = .ok (.goto 9, 3) := by decide +kernel
theorem dX4_noise_38 : decode cX4_noise 38 = .ok (.aload_n 0, 1) := by decide +kernel
theorem dX4_noise_39 : decode cX4_noise 39 = .ok (.iload_n 1, 1) := by decide +kernel
theorem dX4_noise_40 : decode cX4_noise 40 = .ok (.iload_n 2, 1) := by decide +kernel
theorem dX4_noise_41 : decode cX4_noise 41 = .ok (.invokevirtual 84, 3) := by decide +kernel
theorem dX4_noise_44 : decode cX4_noise 44 = .ok (.ireturn, 1) := by decide +kernel
theorem dX4_channels_0 : decode cX4_channels 0 = .ok (.aload_n 0, 1) := by decide +kernel
theorem dX4_channels_1 : decode cX4_channels 1 = .ok (.iload_n 1, 1) := by decide +kernel
theorem dX4_channels_2 : decode cX4_channels 2 = .ok (.invokestatic 101, 3) := by decide +kernel
theorem dX4_channels_5 : decode cX4_channels 5 = .ok (.ifCond .eq 7, 3) := by decide +kernel
theorem dX4_channels_8 : decode cX4_channels 8 = .ok (.iconst 0, 1) := by decide +kernel
theorem dX4_channels_9 : decode cX4_channels 9 = .ok (.goto 4, 3) := by decide +kernel
theorem dX4_channels_12 : decode cX4_channels 12 = .ok (.iconst 1, 1) := by decide +kernel
theorem dX4_channels_13 : decode cX4_channels 13 = .ok (.putfield 59, 3) := by decide +kernel
theorem dX4_channels_16 : decode cX4_channels 16 = .ok (.iconst 0, 1) := by decide +kernel
theorem dX4_channels_17 : decode cX4_channels 17 = .ok (.istore_n 2, 1) := by decide +kernel
theorem dX4_channels_18 : decode cX4_channels 18 = .ok (.iconst 0, 1) := by decide +kernel
theorem dX4_channels_19 : decode cX4_channels 19 = .ok (.istore_n 3, 1) := by decide +kernel
theorem dX4_channels_20 : decode cX4_channels 20 = .ok (.iload_n 3, 1) := by decide +kernel
theorem dX4_channels_21 : decode cX4_channels 21 = .ok (.bipush 17, 2) := by decide +kernel
theorem dX4_channels_23 : decode cX4_channels 23 = .ok (.if_icmp .ge 40, 3) := by decide +kernel
theorem dX4_channels_26 : decode cX4_channels 26 = .ok (.aload_n 0, 1) := by decide +kernel
theorem dX4_channels_27 : decode cX4_channels 27 = .ok (.getfield 59, 3) := by decide +kernel
theorem dX4_channels_30 : decode cX4_channels 30 = .ok (.ifCond .ne 33, 3) := by decide +kernel
theorem dX4_channels_33 : decode cX4_channels 33 = .ok (.iload_n 2, 1) := by decide +kernel
theorem dX4_channels_34 : decode cX4_channels 34 = .ok (.aload_n 0, 1) := by decide +kernel
theorem dX4_channels_35 : decode cX4_channels 35 = .ok (.iload_n 3, 1) := by decide +kernel
theorem dX4_channels_36 : decode cX4_channels 36 = .ok (.iload_n 1, 1) := by decide +kernel
theorem dX4_channels_37 : decode cX4_channels 37 = .ok (.invokevirtual 81, 3) := by decide +kernel
theorem dX4_channels_40 : decode cX4_channels 40 = .ok (.ifCond .eq 14, 3) := by decide +kernel
theorem dX4_channels_43 : decode cX4_channels 43 = .ok (.iconst 1, 1) := by decide +kernel
theorem dX4_channels_44 : decode cX4_channels 44 = .ok (.aload_n 0, 1) := by decide +kernel
theorem dX4_channels_45 : decode cX4_channels 45 = .ok (.getfield 40, 3) := by decide +kernel
theorem dX4_channels_48 : decode cX4_channels 48 = .ok (.iload_n 3, 1) := by decide +kernel
theorem dX4_channels_49 : decode cX4_channels 49 = .ok (.iaload, 1) := by decide +kernel
theorem dX4_channels_50 : decode cX4_channels 50 = .ok (.ishl, 1) := by decide +kernel
theorem dX4_channels_51 : decode cX4_channels 51 = .ok (.goto 4, 3) := by decide +kernel
theorem dX4_channels_54 : decode cX4_channels 54 = .ok (.iconst 0, 1) := by decide +kernel
theorem dX4_channels_55 : decode cX4_channels 55 = .ok (.ior, 1) := by decide +kernel
theorem dX4_channels_56 : decode cX4_channels 56 = .ok (.istore_n 2, 1) := by decide +kernel
theorem dX4_channels_57 : decode cX4_channels 57 = .ok (.iinc 3 1, 3) := by decide +kernel
theorem dX4_channels_60 : decode cX4_channels 60 = .ok (.goto (-40), 3) := by decide +kernel
theorem dX4_channels_63 : decode cX4_channels 63 = .ok (.iload_n 2, 1) := by decide +kernel
theorem dX4_channels_64 : decode cX4_channels 64 = .ok (.ireturn, 1) := by decide +kernel
theorem dX4_isFineByMinutes_0 : decode cX4_isFineByMinutes 0 = .ok (.aload_n 0, 1) := by decide +kernel
theorem dX4_isFineByMinutes_1 : decode cX4_isFineByMinutes 1 = .ok (.iconst 0, 1) := by decide +kernel
theorem dX4_isFineByMinutes_2 : decode cX4_isFineByMinutes 2 = .ok (.putfield 59, 3) := by decide +kernel
theorem dX4_isFineByMinutes_5 : decode cX4_isFineByMinutes 5 = .ok (.aload_n 0, 1) := by decide +kernel
theorem dX4_isFineByMinutes_6 : decode cX4_isFineByMinutes 6 = .ok (.invokevirtual 107, 3) := by decide +kernel
theorem dX4_isFineByMinutes_9 : decode cX4_isFineByMinutes 9 = .ok (.ifCond .ne 7, 3) := by decide +kernel
theorem dX4_isFineByMinutes_12 : decode cX4_isFineByMinutes 12 = .ok (.iconst 1, 1) := by decide +kernel
theorem dX4_isFineByMinutes_13 : decode cX4_isFineByMinutes 13 = .ok (.goto 4, 3) := by decide +kernel
theorem dX4_isFineByMinutes_16 : decode cX4_isFineByMinutes 16 = .ok (.iconst 0, 1) := by decide +kernel
theorem dX4_isFineByMinutes_17 : decode cX4_isFineByMinutes 17 = .ok (.ireturn, 1) := by decide +kernel
end
section
theorem dL_startSet_0 : decode cL_startSet 0 = .ok (.aload_n 2, 1) := by decide +kernel
theorem dL_startSet_1 : decode cL_startSet 1 = .ok (.iconst 0, 1) := by decide +kernel
theorem dL_startSet_2 : decode cL_startSet 2 = .ok (.aload_n 0, 1) := by decide +kernel
theorem dL_startSet_3 : decode cL_startSet 3 = .ok (.iload_n 1, 1) := by decide +kernel
theorem dL_startSet_4 : decode cL_startSet 4 = .ok (.invokevirtual 7, 3) := by decide +kernel
theorem dL_startSet_7 : decode cL_startSet 7 = .ok (.i2l, 1) := by decide +kernel
theorem dL_startSet_8 : decode cL_startSet 8 = .ok (.lastore, 1) := by decide +kernel
theorem dL_startSet_9 : decode cL_startSet 9 = .ok (.goto 9, 3) := by decide +kernel
theorem dL_startSet_12 : decode cL_startSet 12 = .ok (.astore_n 3, 1) := by decide +kernel
theorem dL_startSet_13 : decode cL_startSet 13 = .ok (.iconst 1, 1) := by decide +kernel
theorem dL_startSet_14 : decode cL_startSet 14 = .ok (.ireturn, 1) := by decide +kernel
theorem dL_startSet_15 : decode cL_startSet 15 = .ok (.astore_n 3, 1) := by decide +kernel
theorem dL_startSet_16 : decode cL_startSet 16 = .ok (.iconst 2, 1) := by decide +kernel
theorem dL_startSet_17 : decode cL_startSet 17 = .ok (.ireturn, 1) := by decide +kernel
theorem dL_startSet_18 : decode cL_startSet 18 = .ok (.iconst 0, 1) := by decide +kernel
theorem dL_startSet_19 : decode cL_startSet 19 = .ok (.ireturn, 1) := by decide +kernel
theorem dL_setChange_0 : decode cL_setChange 0 = .ok (.aload_n 3, 1) := by decide +kernel
theorem dL_setChange_1 : decode cL_setChange 1 = .ok (.iconst 0, 1) := by decide +kernel
theorem dL_setChange_2 : decode cL_setChange 2 = .ok (.aload_n 0, 1) := by decide +kernel
theorem dL_setChange_3 : decode cL_setChange 3 = .ok (.iload_n 1, 1) := by decide +kernel
theorem dL_setChange_4 : decode cL_setChange 4 = .ok (.iload_n 2, 1) := by decide +kernel
theorem dL_setChange_5 : decode cL_setChange 5 = .ok (.invokevirtual 17, 3) := by decide +kernel
theorem dL_setChange_8 : decode cL_setChange 8 = .ok (.ifCond .eq 7, 3) := by decide +kernel
theorem dL_setChange_11 : decode cL_setChange 11 = .ok (.lconst 1, 1) := by decide +kernel
theorem dL_setChange_12 : decode cL_setChange 12 = .ok (.goto 4, 3) := by decide +kernel
theorem dL_setChange_15 : decode cL_setChange 15 = .ok (.lconst 0, 1) := by decide +kernel
theorem dL_setChange_16 : decode cL_setChange 16 = .ok (.lastore, 1) := by decide +kernel
theorem dL_setChange_17 : decode cL_setChange 17 = .ok (.goto 11, 3) := by decide +kernel
theorem dL_setChange_20 : decode cL_setChange 20 = .ok (.astore 4, 2) := by decide +kernel
theorem dL_setChange_22 : decode cL_setChange 22 = .ok (.iconst 1, 1) := by decide +kernel
theorem dL_setChange_23 : decode cL_setChange 23 = .ok (.ireturn, 1) := by decide +kernel
theorem dL_setChange_24 : decode cL_setChange 24 = .ok (.astore 4, 2) := by decide +kernel
theorem dL_setChange_26 : decode cL_setChange 26 = .ok (.iconst 2, 1) := by decide +kernel
theorem dL_setChange_27 : decode cL_setChange 27 = .ok (.ireturn, 1) := by decide +kernel
theorem dL_setChange_28 : decode cL_setChange 28 = .ok (.iconst 0, 1) := by decide +kernel
theorem dL_setChange_29 : decode cL_setChange 29 = .ok (.ireturn, 1) := by decide +kernel
theorem dL_setBound_0 : decode cL_setBound 0 = .ok (.aload_n 3, 1) := by decide +kernel
theorem dL_setBound_1 : decode cL_setBound 1 = .ok (.iconst 0, 1) := by decide +kernel
theorem dL_setBound_2 : decode cL_setBound 2 = .ok (.aload_n 0, 1) := by decide +kernel
theorem dL_setBound_3 : decode cL_setBound 3 = .ok (.iload_n 1, 1) := by decide +kernel
theorem dL_setBound_4 : decode cL_setBound 4 = .ok (.iload_n 2, 1) := by decide +kernel
theorem dL_setBound_5 : decode cL_setBound 5 = .ok (.invokevirtual 23, 3) := by decide +kernel
theorem dL_setBound_8 : decode cL_setBound 8 = .ok (.ifCond .eq 7, 3) := by decide +kernel
theorem dL_setBound_11 : decode cL_setBound 11 = .ok (.lconst 1, 1) := by decide +kernel
theorem dL_setBound_12 : decode cL_setBound 12 = .ok (.goto 4, 3) := by decide +kernel
theorem dL_setBound_15 : decode cL_setBound 15 = .ok (.lconst 0, 1) := by decide +kernel
theorem dL_setBound_16 : decode cL_setBound 16 = .ok (.lastore, 1) := by decide +kernel
theorem dL_setBound_17 : decode cL_setBound 17 = .ok (.goto 11, 3) := by decide +kernel
theorem dL_setBound_20 : decode cL_setBound 20 = .ok (.astore 4, 2) := by decide +kernel
theorem dL_setBound_22 : decode cL_setBound 22 = .ok (.iconst 1, 1) := by decide +kernel
theorem dL_setBound_23 : decode cL_setBound 23 = .ok (.ireturn, 1) := by decide +kernel
theorem dL_setBound_24 : decode cL_setBound 24 = .ok (.astore 4, 2) := by decide +kernel
theorem dL_setBound_26 : decode cL_setBound 26 = .ok (.iconst 2, 1) := by decide +kernel
theorem dL_setBound_27 : decode cL_setBound 27 = .ok (.ireturn, 1) := by decide +kernel
theorem dL_setBound_28 : decode cL_setBound 28 = .ok (.iconst 0, 1) := by decide +kernel
theorem dL_setBound_29 : decode cL_setBound 29 = .ok (.ireturn, 1) := by decide +kernel
theorem dL_setWind_0 : decode cL_setWind 0 = .ok (.aload_n 3, 1) := by decide +kernel
theorem dL_setWind_1 : decode cL_setWind 1 = .ok (.iconst 0, 1) := by decide +kernel
theorem dL_setWind_2 : decode cL_setWind 2 = .ok (.aload_n 0, 1) := by decide +kernel
theorem dL_setWind_3 : decode cL_setWind 3 = .ok (.iload_n 1, 1) := by decide +kernel
theorem dL_setWind_4 : decode cL_setWind 4 = .ok (.iload_n 2, 1) := by decide +kernel
theorem dL_setWind_5 : decode cL_setWind 5 = .ok (.invokevirtual 26, 3) := by decide +kernel
theorem dL_setWind_8 : decode cL_setWind 8 = .ok (.ifCond .eq 7, 3) := by decide +kernel
theorem dL_setWind_11 : decode cL_setWind 11 = .ok (.lconst 1, 1) := by decide +kernel
theorem dL_setWind_12 : decode cL_setWind 12 = .ok (.goto 4, 3) := by decide +kernel
theorem dL_setWind_15 : decode cL_setWind 15 = .ok (.lconst 0, 1) := by decide +kernel
theorem dL_setWind_16 : decode cL_setWind 16 = .ok (.lastore, 1) := by decide +kernel
theorem dL_setWind_17 : decode cL_setWind 17 = .ok (.goto 11, 3) := by decide +kernel
theorem dL_setWind_20 : decode cL_setWind 20 = .ok (.astore 4, 2) := by decide +kernel
theorem dL_setWind_22 : decode cL_setWind 22 = .ok (.iconst 1, 1) := by decide +kernel
theorem dL_setWind_23 : decode cL_setWind 23 = .ok (.ireturn, 1) := by decide +kernel
theorem dL_setWind_24 : decode cL_setWind 24 = .ok (.astore 4, 2) := by decide +kernel
theorem dL_setWind_26 : decode cL_setWind 26 = .ok (.iconst 2, 1) := by decide +kernel
theorem dL_setWind_27 : decode cL_setWind 27 = .ok (.ireturn, 1) := by decide +kernel
theorem dL_setWind_28 : decode cL_setWind 28 = .ok (.iconst 0, 1) := by decide +kernel
theorem dL_setWind_29 : decode cL_setWind 29 = .ok (.ireturn, 1) := by decide +kernel
theorem dL_plan_0 : decode cL_plan 0 = .ok (.aload 8, 2) := by decide +kernel
theorem dL_plan_2 : decode cL_plan 2 = .ok (.iconst 0, 1) := by decide +kernel
theorem dL_plan_3 : decode cL_plan 3 = .ok (.aload_n 0, 1) := by decide +kernel
theorem dL_plan_4 : decode cL_plan 4 = .ok (.iload_n 1, 1) := by decide +kernel
theorem dL_plan_5 : decode cL_plan 5 = .ok (.iload_n 2, 1) := by decide +kernel
theorem dL_plan_6 : decode cL_plan 6 = .ok (.iload_n 3, 1) := by decide +kernel
theorem dL_plan_7 : decode cL_plan 7 = .ok (.iload 4, 2) := by decide +kernel
theorem dL_plan_9 : decode cL_plan 9 = .ok (.iload 5, 2) := by decide +kernel
theorem dL_plan_11 : decode cL_plan 11 = .ok (.iload 6, 2) := by decide +kernel
theorem dL_plan_13 : decode cL_plan 13 = .ok (.iload 7, 2) := by decide +kernel
theorem dL_plan_15 : decode cL_plan 15 = .ok (.invokevirtual 29, 3) := by decide +kernel
theorem dL_plan_18 : decode cL_plan 18 = .ok (.i2l, 1) := by decide +kernel
theorem dL_plan_19 : decode cL_plan 19 = .ok (.lastore, 1) := by decide +kernel
theorem dL_plan_20 : decode cL_plan 20 = .ok (.goto 15, 3) := by decide +kernel
theorem dL_plan_23 : decode cL_plan 23 = .ok (.astore 9, 2) := by decide +kernel
theorem dL_plan_25 : decode cL_plan 25 = .ok (.iconst 1, 1) := by decide +kernel
theorem dL_plan_26 : decode cL_plan 26 = .ok (.ireturn, 1) := by decide +kernel
theorem dL_plan_27 : decode cL_plan 27 = .ok (.astore 9, 2) := by decide +kernel
theorem dL_plan_29 : decode cL_plan 29 = .ok (.iconst 2, 1) := by decide +kernel
theorem dL_plan_30 : decode cL_plan 30 = .ok (.ireturn, 1) := by decide +kernel
theorem dL_plan_31 : decode cL_plan 31 = .ok (.astore 9, 2) := by decide +kernel
theorem dL_plan_33 : decode cL_plan 33 = .ok (.iconst 3, 1) := by decide +kernel
theorem dL_plan_34 : decode cL_plan 34 = .ok (.ireturn, 1) := by decide +kernel
theorem dL_plan_35 : decode cL_plan 35 = .ok (.iconst 0, 1) := by decide +kernel
theorem dL_plan_36 : decode cL_plan 36 = .ok (.ireturn, 1) := by decide +kernel
theorem dL_reason_0 : decode cL_reason 0 = .ok (.aload 8, 2) := by decide +kernel
theorem dL_reason_2 : decode cL_reason 2 = .ok (.iconst 0, 1) := by decide +kernel
theorem dL_reason_3 : decode cL_reason 3 = .ok (.aload_n 0, 1) := by decide +kernel
theorem dL_reason_4 : decode cL_reason 4 = .ok (.iload_n 1, 1) := by decide +kernel
theorem dL_reason_5 : decode cL_reason 5 = .ok (.iload_n 2, 1) := by decide +kernel
theorem dL_reason_6 : decode cL_reason 6 = .ok (.iload_n 3, 1) := by decide +kernel
theorem dL_reason_7 : decode cL_reason 7 = .ok (.iload 4, 2) := by decide +kernel
theorem dL_reason_9 : decode cL_reason 9 = .ok (.iload 5, 2) := by decide +kernel
theorem dL_reason_11 : decode cL_reason 11 = .ok (.iload 6, 2) := by decide +kernel
theorem dL_reason_13 : decode cL_reason 13 = .ok (.iload 7, 2) := by decide +kernel
theorem dL_reason_15 : decode cL_reason 15 = .ok (.invokevirtual 33, 3) := by decide +kernel
theorem dL_reason_18 : decode cL_reason 18 = .ok (.i2l, 1) := by decide +kernel
theorem dL_reason_19 : decode cL_reason 19 = .ok (.lastore, 1) := by decide +kernel
theorem dL_reason_20 : decode cL_reason 20 = .ok (.goto 15, 3) := by decide +kernel
theorem dL_reason_23 : decode cL_reason 23 = .ok (.astore 9, 2) := by decide +kernel
theorem dL_reason_25 : decode cL_reason 25 = .ok (.iconst 1, 1) := by decide +kernel
theorem dL_reason_26 : decode cL_reason 26 = .ok (.ireturn, 1) := by decide +kernel
theorem dL_reason_27 : decode cL_reason 27 = .ok (.astore 9, 2) := by decide +kernel
theorem dL_reason_29 : decode cL_reason 29 = .ok (.iconst 2, 1) := by decide +kernel
theorem dL_reason_30 : decode cL_reason 30 = .ok (.ireturn, 1) := by decide +kernel
theorem dL_reason_31 : decode cL_reason 31 = .ok (.astore 9, 2) := by decide +kernel
theorem dL_reason_33 : decode cL_reason 33 = .ok (.iconst 3, 1) := by decide +kernel
theorem dL_reason_34 : decode cL_reason 34 = .ok (.ireturn, 1) := by decide +kernel
theorem dL_reason_35 : decode cL_reason 35 = .ok (.iconst 0, 1) := by decide +kernel
theorem dL_reason_36 : decode cL_reason 36 = .ok (.ireturn, 1) := by decide +kernel
theorem dL_move_0 : decode cL_move 0 = .ok (.aload_n 3, 1) := by decide +kernel
theorem dL_move_1 : decode cL_move 1 = .ok (.iconst 0, 1) := by decide +kernel
theorem dL_move_2 : decode cL_move 2 = .ok (.aload_n 0, 1) := by decide +kernel
theorem dL_move_3 : decode cL_move 3 = .ok (.iload_n 1, 1) := by decide +kernel
theorem dL_move_4 : decode cL_move 4 = .ok (.iload_n 2, 1) := by decide +kernel
theorem dL_move_5 : decode cL_move 5 = .ok (.invokevirtual 36, 3) := by decide +kernel
theorem dL_move_8 : decode cL_move 8 = .ok (.ifCond .eq 7, 3) := by decide +kernel
theorem dL_move_11 : decode cL_move 11 = .ok (.lconst 1, 1) := by decide +kernel
theorem dL_move_12 : decode cL_move 12 = .ok (.goto 4, 3) := by decide +kernel
theorem dL_move_15 : decode cL_move 15 = .ok (.lconst 0, 1) := by decide +kernel
theorem dL_move_16 : decode cL_move 16 = .ok (.lastore, 1) := by decide +kernel
theorem dL_move_17 : decode cL_move 17 = .ok (.goto 15, 3) := by decide +kernel
theorem dL_move_20 : decode cL_move 20 = .ok (.astore 4, 2) := by decide +kernel
theorem dL_move_22 : decode cL_move 22 = .ok (.iconst 1, 1) := by decide +kernel
theorem dL_move_23 : decode cL_move 23 = .ok (.ireturn, 1) := by decide +kernel
theorem dL_move_24 : decode cL_move 24 = .ok (.astore 4, 2) := by decide +kernel
theorem dL_move_26 : decode cL_move 26 = .ok (.iconst 2, 1) := by decide +kernel
theorem dL_move_27 : decode cL_move 27 = .ok (.ireturn, 1) := by decide +kernel
theorem dL_move_28 : decode cL_move 28 = .ok (.astore 4, 2) := by decide +kernel
theorem dL_move_30 : decode cL_move 30 = .ok (.iconst 3, 1) := by decide +kernel
theorem dL_move_31 : decode cL_move 31 = .ok (.ireturn, 1) := by decide +kernel
theorem dL_move_32 : decode cL_move 32 = .ok (.iconst 0, 1) := by decide +kernel
theorem dL_move_33 : decode cL_move 33 = .ok (.ireturn, 1) := by decide +kernel
theorem dL_drop_0 : decode cL_drop 0 = .ok (.aload_n 0, 1) := by decide +kernel
theorem dL_drop_1 : decode cL_drop 1 = .ok (.iload_n 1, 1) := by decide +kernel
theorem dL_drop_2 : decode cL_drop 2 = .ok (.invokevirtual 39, 3) := by decide +kernel
theorem dL_drop_5 : decode cL_drop 5 = .ok (.goto 9, 3) := by decide +kernel
theorem dL_drop_8 : decode cL_drop 8 = .ok (.astore_n 2, 1) := by decide +kernel
theorem dL_drop_9 : decode cL_drop 9 = .ok (.iconst 1, 1) := by decide +kernel
theorem dL_drop_10 : decode cL_drop 10 = .ok (.ireturn, 1) := by decide +kernel
theorem dL_drop_11 : decode cL_drop 11 = .ok (.astore_n 2, 1) := by decide +kernel
theorem dL_drop_12 : decode cL_drop 12 = .ok (.iconst 2, 1) := by decide +kernel
theorem dL_drop_13 : decode cL_drop 13 = .ok (.ireturn, 1) := by decide +kernel
theorem dL_drop_14 : decode cL_drop 14 = .ok (.iconst 0, 1) := by decide +kernel
theorem dL_drop_15 : decode cL_drop 15 = .ok (.ireturn, 1) := by decide +kernel
theorem dL_start_0 : decode cL_start 0 = .ok (.aload_n 2, 1) := by decide +kernel
theorem dL_start_1 : decode cL_start 1 = .ok (.iconst 0, 1) := by decide +kernel
theorem dL_start_2 : decode cL_start 2 = .ok (.aload_n 0, 1) := by decide +kernel
theorem dL_start_3 : decode cL_start 3 = .ok (.iload_n 1, 1) := by decide +kernel
theorem dL_start_4 : decode cL_start 4 = .ok (.invokevirtual 43, 3) := by decide +kernel
theorem dL_start_7 : decode cL_start 7 = .ok (.i2l, 1) := by decide +kernel
theorem dL_start_8 : decode cL_start 8 = .ok (.lastore, 1) := by decide +kernel
theorem dL_start_9 : decode cL_start 9 = .ok (.goto 6, 3) := by decide +kernel
theorem dL_start_12 : decode cL_start 12 = .ok (.astore_n 3, 1) := by decide +kernel
theorem dL_start_13 : decode cL_start 13 = .ok (.iconst 1, 1) := by decide +kernel
theorem dL_start_14 : decode cL_start 14 = .ok (.ireturn, 1) := by decide +kernel
theorem dL_start_15 : decode cL_start 15 = .ok (.iconst 0, 1) := by decide +kernel
theorem dL_start_16 : decode cL_start 16 = .ok (.ireturn, 1) := by decide +kernel
theorem dL_firstStart_0 : decode cL_firstStart 0 = .ok (.aload_n 3, 1) := by decide +kernel
theorem dL_firstStart_1 : decode cL_firstStart 1 = .ok (.iconst 0, 1) := by decide +kernel
theorem dL_firstStart_2 : decode cL_firstStart 2 = .ok (.aload_n 0, 1) := by decide +kernel
theorem dL_firstStart_3 : decode cL_firstStart 3 = .ok (.iload_n 1, 1) := by decide +kernel
theorem dL_firstStart_4 : decode cL_firstStart 4 = .ok (.iload_n 2, 1) := by decide +kernel
theorem dL_firstStart_5 : decode cL_firstStart 5 = .ok (.invokevirtual 46, 3) := by decide +kernel
theorem dL_firstStart_8 : decode cL_firstStart 8 = .ok (.i2l, 1) := by decide +kernel
theorem dL_firstStart_9 : decode cL_firstStart 9 = .ok (.lastore, 1) := by decide +kernel
theorem dL_firstStart_10 : decode cL_firstStart 10 = .ok (.goto 15, 3) := by decide +kernel
theorem dL_firstStart_13 : decode cL_firstStart 13 = .ok (.astore 4, 2) := by decide +kernel
theorem dL_firstStart_15 : decode cL_firstStart 15 = .ok (.iconst 1, 1) := by decide +kernel
theorem dL_firstStart_16 : decode cL_firstStart 16 = .ok (.ireturn, 1) := by decide +kernel
theorem dL_firstStart_17 : decode cL_firstStart 17 = .ok (.astore 4, 2) := by decide +kernel
theorem dL_firstStart_19 : decode cL_firstStart 19 = .ok (.iconst 2, 1) := by decide +kernel
theorem dL_firstStart_20 : decode cL_firstStart 20 = .ok (.ireturn, 1) := by decide +kernel
theorem dL_firstStart_21 : decode cL_firstStart 21 = .ok (.astore 4, 2) := by decide +kernel
theorem dL_firstStart_23 : decode cL_firstStart 23 = .ok (.iconst 3, 1) := by decide +kernel
theorem dL_firstStart_24 : decode cL_firstStart 24 = .ok (.ireturn, 1) := by decide +kernel
theorem dL_firstStart_25 : decode cL_firstStart 25 = .ok (.iconst 0, 1) := by decide +kernel
theorem dL_firstStart_26 : decode cL_firstStart 26 = .ok (.ireturn, 1) := by decide +kernel
theorem dL_type_0 : decode cL_type 0 = .ok (.aload_n 2, 1) := by decide +kernel
theorem dL_type_1 : decode cL_type 1 = .ok (.iconst 0, 1) := by decide +kernel
theorem dL_type_2 : decode cL_type 2 = .ok (.aload_n 0, 1) := by decide +kernel
theorem dL_type_3 : decode cL_type 3 = .ok (.iload_n 1, 1) := by decide +kernel
theorem dL_type_4 : decode cL_type 4 = .ok (.invokevirtual 50, 3) := by decide +kernel
theorem dL_type_7 : decode cL_type 7 = .ok (.i2l, 1) := by decide +kernel
theorem dL_type_8 : decode cL_type 8 = .ok (.lastore, 1) := by decide +kernel
theorem dL_type_9 : decode cL_type 9 = .ok (.goto 9, 3) := by decide +kernel
theorem dL_type_12 : decode cL_type 12 = .ok (.astore_n 3, 1) := by decide +kernel
theorem dL_type_13 : decode cL_type 13 = .ok (.iconst 1, 1) := by decide +kernel
theorem dL_type_14 : decode cL_type 14 = .ok (.ireturn, 1) := by decide +kernel
theorem dL_type_15 : decode cL_type 15 = .ok (.astore_n 3, 1) := by decide +kernel
theorem dL_type_16 : decode cL_type 16 = .ok (.iconst 2, 1) := by decide +kernel
theorem dL_type_17 : decode cL_type 17 = .ok (.ireturn, 1) := by decide +kernel
theorem dL_type_18 : decode cL_type 18 = .ok (.iconst 0, 1) := by decide +kernel
theorem dL_type_19 : decode cL_type 19 = .ok (.ireturn, 1) := by decide +kernel
theorem dL_grant_0 : decode cL_grant 0 = .ok (.aload_n 2, 1) := by decide +kernel
theorem dL_grant_1 : decode cL_grant 1 = .ok (.iconst 0, 1) := by decide +kernel
theorem dL_grant_2 : decode cL_grant 2 = .ok (.aload_n 0, 1) := by decide +kernel
theorem dL_grant_3 : decode cL_grant 3 = .ok (.iload_n 1, 1) := by decide +kernel
theorem dL_grant_4 : decode cL_grant 4 = .ok (.invokevirtual 54, 3) := by decide +kernel
theorem dL_grant_7 : decode cL_grant 7 = .ok (.ifCond .eq 7, 3) := by decide +kernel
theorem dL_grant_10 : decode cL_grant 10 = .ok (.lconst 1, 1) := by decide +kernel
theorem dL_grant_11 : decode cL_grant 11 = .ok (.goto 4, 3) := by decide +kernel
theorem dL_grant_14 : decode cL_grant 14 = .ok (.lconst 0, 1) := by decide +kernel
theorem dL_grant_15 : decode cL_grant 15 = .ok (.lastore, 1) := by decide +kernel
theorem dL_grant_16 : decode cL_grant 16 = .ok (.goto 9, 3) := by decide +kernel
theorem dL_grant_19 : decode cL_grant 19 = .ok (.astore_n 3, 1) := by decide +kernel
theorem dL_grant_20 : decode cL_grant 20 = .ok (.iconst 1, 1) := by decide +kernel
theorem dL_grant_21 : decode cL_grant 21 = .ok (.ireturn, 1) := by decide +kernel
theorem dL_grant_22 : decode cL_grant 22 = .ok (.astore_n 3, 1) := by decide +kernel
theorem dL_grant_23 : decode cL_grant 23 = .ok (.iconst 2, 1) := by decide +kernel
theorem dL_grant_24 : decode cL_grant 24 = .ok (.ireturn, 1) := by decide +kernel
theorem dL_grant_25 : decode cL_grant 25 = .ok (.iconst 0, 1) := by decide +kernel
theorem dL_grant_26 : decode cL_grant 26 = .ok (.ireturn, 1) := by decide +kernel
theorem dL_ofAct_0 : decode cL_ofAct 0 = .ok (.aload_n 3, 1) := by decide +kernel
theorem dL_ofAct_1 : decode cL_ofAct 1 = .ok (.iconst 0, 1) := by decide +kernel
theorem dL_ofAct_2 : decode cL_ofAct 2 = .ok (.aload_n 0, 1) := by decide +kernel
theorem dL_ofAct_3 : decode cL_ofAct 3 = .ok (.iload_n 1, 1) := by decide +kernel
theorem dL_ofAct_4 : decode cL_ofAct 4 = .ok (.iload_n 2, 1) := by decide +kernel
theorem dL_ofAct_5 : decode cL_ofAct 5 = .ok (.invokevirtual 58, 3) := by decide +kernel
theorem dL_ofAct_8 : decode cL_ofAct 8 = .ok (.i2l, 1) := by decide +kernel
theorem dL_ofAct_9 : decode cL_ofAct 9 = .ok (.lastore, 1) := by decide +kernel
theorem dL_ofAct_10 : decode cL_ofAct 10 = .ok (.goto 7, 3) := by decide +kernel
theorem dL_ofAct_13 : decode cL_ofAct 13 = .ok (.astore 4, 2) := by decide +kernel
theorem dL_ofAct_15 : decode cL_ofAct 15 = .ok (.iconst 1, 1) := by decide +kernel
theorem dL_ofAct_16 : decode cL_ofAct 16 = .ok (.ireturn, 1) := by decide +kernel
theorem dL_ofAct_17 : decode cL_ofAct 17 = .ok (.iconst 0, 1) := by decide +kernel
theorem dL_ofAct_18 : decode cL_ofAct 18 = .ok (.ireturn, 1) := by decide +kernel
theorem dL_storm_0 : decode cL_storm 0 = .ok (.aload 4, 2) := by decide +kernel
theorem dL_storm_2 : decode cL_storm 2 = .ok (.iconst 0, 1) := by decide +kernel
theorem dL_storm_3 : decode cL_storm 3 = .ok (.aload_n 0, 1) := by decide +kernel
theorem dL_storm_4 : decode cL_storm 4 = .ok (.iload_n 1, 1) := by decide +kernel
theorem dL_storm_5 : decode cL_storm 5 = .ok (.iload_n 2, 1) := by decide +kernel
theorem dL_storm_6 : decode cL_storm 6 = .ok (.iload_n 3, 1) := by decide +kernel
theorem dL_storm_7 : decode cL_storm 7 = .ok (.invokevirtual 61, 3) := by decide +kernel
theorem dL_storm_10 : decode cL_storm 10 = .ok (.i2l, 1) := by decide +kernel
theorem dL_storm_11 : decode cL_storm 11 = .ok (.lastore, 1) := by decide +kernel
theorem dL_storm_12 : decode cL_storm 12 = .ok (.goto 15, 3) := by decide +kernel
theorem dL_storm_15 : decode cL_storm 15 = .ok (.astore 5, 2) := by decide +kernel
theorem dL_storm_17 : decode cL_storm 17 = .ok (.iconst 1, 1) := by decide +kernel
theorem dL_storm_18 : decode cL_storm 18 = .ok (.ireturn, 1) := by decide +kernel
theorem dL_storm_19 : decode cL_storm 19 = .ok (.astore 5, 2) := by decide +kernel
theorem dL_storm_21 : decode cL_storm 21 = .ok (.iconst 2, 1) := by decide +kernel
theorem dL_storm_22 : decode cL_storm 22 = .ok (.ireturn, 1) := by decide +kernel
theorem dL_storm_23 : decode cL_storm 23 = .ok (.astore 5, 2) := by decide +kernel
theorem dL_storm_25 : decode cL_storm 25 = .ok (.iconst 3, 1) := by decide +kernel
theorem dL_storm_26 : decode cL_storm 26 = .ok (.ireturn, 1) := by decide +kernel
theorem dL_storm_27 : decode cL_storm 27 = .ok (.iconst 0, 1) := by decide +kernel
theorem dL_storm_28 : decode cL_storm 28 = .ok (.ireturn, 1) := by decide +kernel
theorem dL_load_0 : decode cL_load 0 = .ok (.aload_n 3, 1) := by decide +kernel
theorem dL_load_1 : decode cL_load 1 = .ok (.iconst 0, 1) := by decide +kernel
theorem dL_load_2 : decode cL_load 2 = .ok (.aload_n 0, 1) := by decide +kernel
theorem dL_load_3 : decode cL_load 3 = .ok (.iload_n 1, 1) := by decide +kernel
theorem dL_load_4 : decode cL_load 4 = .ok (.iload_n 2, 1) := by decide +kernel
theorem dL_load_5 : decode cL_load 5 = .ok (.invokevirtual 65, 3) := by decide +kernel
theorem dL_load_8 : decode cL_load 8 = .ok (.i2l, 1) := by decide +kernel
theorem dL_load_9 : decode cL_load 9 = .ok (.lastore, 1) := by decide +kernel
theorem dL_load_10 : decode cL_load 10 = .ok (.goto 11, 3) := by decide +kernel
theorem dL_load_13 : decode cL_load 13 = .ok (.astore 4, 2) := by decide +kernel
theorem dL_load_15 : decode cL_load 15 = .ok (.iconst 1, 1) := by decide +kernel
theorem dL_load_16 : decode cL_load 16 = .ok (.ireturn, 1) := by decide +kernel
theorem dL_load_17 : decode cL_load 17 = .ok (.astore 4, 2) := by decide +kernel
theorem dL_load_19 : decode cL_load 19 = .ok (.iconst 2, 1) := by decide +kernel
theorem dL_load_20 : decode cL_load 20 = .ok (.ireturn, 1) := by decide +kernel
theorem dL_load_21 : decode cL_load 21 = .ok (.iconst 0, 1) := by decide +kernel
theorem dL_load_22 : decode cL_load 22 = .ok (.ireturn, 1) := by decide +kernel
theorem dL_noise_0 : decode cL_noise 0 = .ok (.aload_n 3, 1) := by decide +kernel
theorem dL_noise_1 : decode cL_noise 1 = .ok (.iconst 0, 1) := by decide +kernel
theorem dL_noise_2 : decode cL_noise 2 = .ok (.aload_n 0, 1) := by decide +kernel
theorem dL_noise_3 : decode cL_noise 3 = .ok (.iload_n 1, 1) := by decide +kernel
theorem dL_noise_4 : decode cL_noise 4 = .ok (.iload_n 2, 1) := by decide +kernel
theorem dL_noise_5 : decode cL_noise 5 = .ok (.invokevirtual 68, 3) := by decide +kernel
theorem dL_noise_8 : decode cL_noise 8 = .ok (.i2l, 1) := by decide +kernel
theorem dL_noise_9 : decode cL_noise 9 = .ok (.lastore, 1) := by decide +kernel
theorem dL_noise_10 : decode cL_noise 10 = .ok (.goto 11, 3) := by decide +kernel
theorem dL_noise_13 : decode cL_noise 13 = .ok (.astore 4, 2) := by decide +kernel
theorem dL_noise_15 : decode cL_noise 15 = .ok (.iconst 1, 1) := by decide +kernel
theorem dL_noise_16 : decode cL_noise 16 = .ok (.ireturn, 1) := by decide +kernel
theorem dL_noise_17 : decode cL_noise 17 = .ok (.astore 4, 2) := by decide +kernel
theorem dL_noise_19 : decode cL_noise 19 = .ok (.iconst 2, 1) := by decide +kernel
theorem dL_noise_20 : decode cL_noise 20 = .ok (.ireturn, 1) := by decide +kernel
theorem dL_noise_21 : decode cL_noise 21 = .ok (.iconst 0, 1) := by decide +kernel
theorem dL_noise_22 : decode cL_noise 22 = .ok (.ireturn, 1) := by decide +kernel
theorem dL_channels_0 : decode cL_channels 0 = .ok (.aload_n 2, 1) := by decide +kernel
theorem dL_channels_1 : decode cL_channels 1 = .ok (.iconst 0, 1) := by decide +kernel
theorem dL_channels_2 : decode cL_channels 2 = .ok (.aload_n 0, 1) := by decide +kernel
theorem dL_channels_3 : decode cL_channels 3 = .ok (.iload_n 1, 1) := by decide +kernel
theorem dL_channels_4 : decode cL_channels 4 = .ok (.invokevirtual 71, 3) := by decide +kernel
theorem dL_channels_7 : decode cL_channels 7 = .ok (.i2l, 1) := by decide +kernel
theorem dL_channels_8 : decode cL_channels 8 = .ok (.lastore, 1) := by decide +kernel
theorem dL_channels_9 : decode cL_channels 9 = .ok (.goto 6, 3) := by decide +kernel
theorem dL_channels_12 : decode cL_channels 12 = .ok (.astore_n 3, 1) := by decide +kernel
theorem dL_channels_13 : decode cL_channels 13 = .ok (.iconst 1, 1) := by decide +kernel
theorem dL_channels_14 : decode cL_channels 14 = .ok (.ireturn, 1) := by decide +kernel
theorem dL_channels_15 : decode cL_channels 15 = .ok (.iconst 0, 1) := by decide +kernel
theorem dL_channels_16 : decode cL_channels 16 = .ok (.ireturn, 1) := by decide +kernel
theorem dL_law_0 : decode cL_law 0 = .ok (.new 8, 3) := by decide +kernel
theorem dL_law_3 : decode cL_law 3 = .ok (.dup, 1) := by decide +kernel
theorem dL_law_4 : decode cL_law 4 = .ok (.invokespecial 74, 3) := by decide +kernel
theorem dL_law_7 : decode cL_law 7 = .ok (.astore_n 1, 1) := by decide +kernel
theorem dL_law_8 : decode cL_law 8 = .ok (.new 75, 3) := by decide +kernel
theorem dL_law_11 : decode cL_law 11 = .ok (.dup, 1) := by decide +kernel
theorem dL_law_12 : decode cL_law 12 = .ok (.invokespecial 77, 3) := by decide +kernel
theorem dL_law_15 : decode cL_law 15 = .ok (.astore_n 2, 1) := by decide +kernel
theorem dL_law_16 : decode cL_law 16 = .ok (.iconst 1, 1) := by decide +kernel
theorem dL_law_17 : decode cL_law 17 = .ok (.newarray .long, 2) := by decide +kernel
theorem dL_law_19 : decode cL_law 19 = .ok (.astore_n 3, 1) := by decide +kernel
theorem dL_law_20 : decode cL_law 20 = .ok (.iconst 0, 1) := by decide +kernel
theorem dL_law_21 : decode cL_law 21 = .ok (.istore 4, 2) := by decide +kernel
theorem dL_law_23 : decode cL_law 23 = .ok (.iload 4, 2) := by decide +kernel
theorem dL_law_25 : decode cL_law 25 = .ok (.aload_n 0, 1) := by decide +kernel
theorem dL_law_26 : decode cL_law 26 = .ok (.arraylength, 1) := by decide +kernel
theorem dL_law_27 : decode cL_law 27 = .ok (.bipush 8, 2) := by decide +kernel
theorem dL_law_29 : decode cL_law 29 = .ok (.isub, 1) := by decide +kernel
theorem dL_law_30 : decode cL_law 30 = .ok (.if_icmp .gt 1375, 3) := by decide +kernel
theorem dL_law_33 : decode cL_law 33 = .ok (.aload_n 0, 1) := by decide +kernel
theorem dL_law_34 : decode cL_law 34 = .ok (.iload 4, 2) := by decide +kernel
theorem dL_law_36 : decode cL_law 36 = .ok (.iaload, 1) := by decide +kernel
theorem dL_law_37 : decode cL_law 37 = .ok (.bipush 31, 2) := by decide +kernel
theorem dL_law_39 : decode cL_law 39 = .ok (.iand, 1) := by decide +kernel
theorem dL_law_40 : decode cL_law 40 = .ok (.tableswitch 1359 0 18 #[92, 148, 223, 298, 373, 505, 637, 712, 748, 804, 872, 930, 943, 1006, 1074, 1154, 1222, 1290, 1346], 92) := by decide +kernel
theorem dL_law_132 : decode cL_law 132 = .ok (.aload_n 1, 1) := by decide +kernel
theorem dL_law_133 : decode cL_law 133 = .ok (.aload_n 0, 1) := by decide +kernel
theorem dL_law_134 : decode cL_law 134 = .ok (.iload 4, 2) := by decide +kernel
theorem dL_law_136 : decode cL_law 136 = .ok (.iconst 1, 1) := by decide +kernel
theorem dL_law_137 : decode cL_law 137 = .ok (.iadd, 1) := by decide +kernel
theorem dL_law_138 : decode cL_law 138 = .ok (.iaload, 1) := by decide +kernel
theorem dL_law_139 : decode cL_law 139 = .ok (.aload_n 3, 1) := by decide +kernel
theorem dL_law_140 : decode cL_law 140 = .ok (.invokestatic 78, 3) := by decide +kernel
theorem dL_law_143 : decode cL_law 143 = .ok (.istore 5, 2) := by decide +kernel
theorem dL_law_145 : decode cL_law 145 = .ok (.aload_n 2, 1) := by decide +kernel
theorem dL_law_146 : decode cL_law 146 = .ok (.aload_n 0, 1) := by decide +kernel
theorem dL_law_147 : decode cL_law 147 = .ok (.iload 4, 2) := by decide +kernel
theorem dL_law_149 : decode cL_law 149 = .ok (.iconst 1, 1) := by decide +kernel
theorem dL_law_150 : decode cL_law 150 = .ok (.iadd, 1) := by decide +kernel
theorem dL_law_151 : decode cL_law 151 = .ok (.iaload, 1) := by decide +kernel
theorem dL_law_152 : decode cL_law 152 = .ok (.invokevirtual 83, 3) := by decide +kernel
theorem dL_law_155 : decode cL_law 155 = .ok (.istore 6, 2) := by decide +kernel
theorem dL_law_157 : decode cL_law 157 = .ok (.aload_n 2, 1) := by decide +kernel
theorem dL_law_158 : decode cL_law 158 = .ok (.invokevirtual 84, 3) := by decide +kernel
theorem dL_law_161 : decode cL_law 161 = .ok (.iload 5, 2) := by decide +kernel
theorem dL_law_163 : decode cL_law 163 = .ok (.if_icmp .eq 5, 3) := by decide +kernel
theorem dL_law_166 : decode cL_law 166 = .ok (.iconst 0, 1) := by decide +kernel
theorem dL_law_167 : decode cL_law 167 = .ok (.ireturn, 1) := by decide +kernel
theorem dL_law_168 : decode cL_law 168 = .ok (.iload 5, 2) := by decide +kernel
theorem dL_law_170 : decode cL_law 170 = .ok (.ifCond .ne 15, 3) := by decide +kernel
theorem dL_law_173 : decode cL_law 173 = .ok (.aload_n 3, 1) := by decide +kernel
theorem dL_law_174 : decode cL_law 174 = .ok (.iconst 0, 1) := by decide +kernel
theorem dL_law_175 : decode cL_law 175 = .ok (.laload, 1) := by decide +kernel
theorem dL_law_176 : decode cL_law 176 = .ok (.iload 6, 2) := by decide +kernel
theorem dL_law_178 : decode cL_law 178 = .ok (.i2l, 1) := by decide +kernel
theorem dL_law_179 : decode cL_law 179 = .ok (.lcmp, 1) := by decide +kernel
theorem dL_law_180 : decode cL_law 180 = .ok (.ifCond .eq 5, 3) := by decide +kernel
theorem dL_law_183 : decode cL_law 183 = .ok (.iconst 0, 1) := by decide +kernel
theorem dL_law_184 : decode cL_law 184 = .ok (.ireturn, 1) := by decide +kernel
theorem dL_law_185 : decode cL_law 185 = .ok (.goto 1214, 3) := by decide +kernel
theorem dL_law_188 : decode cL_law 188 = .ok (.aload_n 1, 1) := by decide +kernel
theorem dL_law_189 : decode cL_law 189 = .ok (.aload_n 0, 1) := by decide +kernel
theorem dL_law_190 : decode cL_law 190 = .ok (.iload 4, 2) := by decide +kernel
theorem dL_law_192 : decode cL_law 192 = .ok (.iconst 1, 1) := by decide +kernel
theorem dL_law_193 : decode cL_law 193 = .ok (.iadd, 1) := by decide +kernel
theorem dL_law_194 : decode cL_law 194 = .ok (.iaload, 1) := by decide +kernel
theorem dL_law_195 : decode cL_law 195 = .ok (.aload_n 0, 1) := by decide +kernel
theorem dL_law_196 : decode cL_law 196 = .ok (.iload 4, 2) := by decide +kernel
theorem dL_law_198 : decode cL_law 198 = .ok (.iconst 2, 1) := by decide +kernel
theorem dL_law_199 : decode cL_law 199 = .ok (.iadd, 1) := by decide +kernel
theorem dL_law_200 : decode cL_law 200 = .ok (.iaload, 1) := by decide +kernel
theorem dL_law_201 : decode cL_law 201 = .ok (.aload_n 3, 1) := by decide +kernel
theorem dL_law_202 : decode cL_law 202 = .ok (.invokestatic 88, 3) := by decide +kernel
theorem dL_law_205 : decode cL_law 205 = .ok (.istore 5, 2) := by decide +kernel
theorem dL_law_207 : decode cL_law 207 = .ok (.aload_n 2, 1) := by decide +kernel
theorem dL_law_208 : decode cL_law 208 = .ok (.aload_n 0, 1) := by decide +kernel
theorem dL_law_209 : decode cL_law 209 = .ok (.iload 4, 2) := by decide +kernel
theorem dL_law_211 : decode cL_law 211 = .ok (.iconst 1, 1) := by decide +kernel
theorem dL_law_212 : decode cL_law 212 = .ok (.iadd, 1) := by decide +kernel
theorem dL_law_213 : decode cL_law 213 = .ok (.iaload, 1) := by decide +kernel
theorem dL_law_214 : decode cL_law 214 = .ok (.aload_n 0, 1) := by decide +kernel
theorem dL_law_215 : decode cL_law 215 = .ok (.iload 4, 2) := by decide +kernel
theorem dL_law_217 : decode cL_law 217 = .ok (.iconst 2, 1) := by decide +kernel
theorem dL_law_218 : decode cL_law 218 = .ok (.iadd, 1) := by decide +kernel
theorem dL_law_219 : decode cL_law 219 = .ok (.iaload, 1) := by decide +kernel
theorem dL_law_220 : decode cL_law 220 = .ok (.invokevirtual 91, 3) := by decide +kernel
theorem dL_law_223 : decode cL_law 223 = .ok (.istore 6, 2) := by decide +kernel
theorem dL_law_225 : decode cL_law 225 = .ok (.aload_n 2, 1) := by decide +kernel
theorem dL_law_226 : decode cL_law 226 = .ok (.invokevirtual 84, 3) := by decide +kernel
theorem dL_law_229 : decode cL_law 229 = .ok (.iload 5, 2) := by decide +kernel
theorem dL_law_231 : decode cL_law 231 = .ok (.if_icmp .eq 5, 3) := by decide +kernel
theorem dL_law_234 : decode cL_law 234 = .ok (.iconst 0, 1) := by decide +kernel
theorem dL_law_235 : decode cL_law 235 = .ok (.ireturn, 1) := by decide +kernel
theorem dL_law_236 : decode cL_law 236 = .ok (.iload 5, 2) := by decide +kernel
theorem dL_law_238 : decode cL_law 238 = .ok (.ifCond .ne 22, 3) := by decide +kernel
theorem dL_law_241 : decode cL_law 241 = .ok (.aload_n 3, 1) := by decide +kernel
theorem dL_law_242 : decode cL_law 242 = .ok (.iconst 0, 1) := by decide +kernel
theorem dL_law_243 : decode cL_law 243 = .ok (.laload, 1) := by decide +kernel
theorem dL_law_244 : decode cL_law 244 = .ok (.iload 6, 2) := by decide +kernel
theorem dL_law_246 : decode cL_law 246 = .ok (.ifCond .eq 7, 3) := by decide +kernel
theorem dL_law_249 : decode cL_law 249 = .ok (.lconst 1, 1) := by decide +kernel
theorem dL_law_250 : decode cL_law 250 = .ok (.goto 4, 3) := by decide +kernel
theorem dL_law_253 : decode cL_law 253 = .ok (.lconst 0, 1) := by decide +kernel
theorem dL_law_254 : decode cL_law 254 = .ok (.lcmp, 1) := by decide +kernel
theorem dL_law_255 : decode cL_law 255 = .ok (.ifCond .eq 5, 3) := by decide +kernel
theorem dL_law_258 : decode cL_law 258 = .ok (.iconst 0, 1) := by decide +kernel
theorem dL_law_259 : decode cL_law 259 = .ok (.ireturn, 1) := by decide +kernel
theorem dL_law_260 : decode cL_law 260 = .ok (.goto 1139, 3) := by decide +kernel
theorem dL_law_263 : decode cL_law 263 = .ok (.aload_n 1, 1) := by decide +kernel
theorem dL_law_264 : decode cL_law 264 = .ok (.aload_n 0, 1) := by decide +kernel
theorem dL_law_265 : decode cL_law 265 = .ok (.iload 4, 2) := by decide +kernel
theorem dL_law_267 : decode cL_law 267 = .ok (.iconst 1, 1) := by decide +kernel
theorem dL_law_268 : decode cL_law 268 = .ok (.iadd, 1) := by decide +kernel
theorem dL_law_269 : decode cL_law 269 = .ok (.iaload, 1) := by decide +kernel
theorem dL_law_270 : decode cL_law 270 = .ok (.aload_n 0, 1) := by decide +kernel
theorem dL_law_271 : decode cL_law 271 = .ok (.iload 4, 2) := by decide +kernel
theorem dL_law_273 : decode cL_law 273 = .ok (.iconst 2, 1) := by decide +kernel
theorem dL_law_274 : decode cL_law 274 = .ok (.iadd, 1) := by decide +kernel
theorem dL_law_275 : decode cL_law 275 = .ok (.iaload, 1) := by decide +kernel
theorem dL_law_276 : decode cL_law 276 = .ok (.aload_n 3, 1) := by decide +kernel
theorem dL_law_277 : decode cL_law 277 = .ok (.invokestatic 92, 3) := by decide +kernel
theorem dL_law_280 : decode cL_law 280 = .ok (.istore 5, 2) := by decide +kernel
theorem dL_law_282 : decode cL_law 282 = .ok (.aload_n 2, 1) := by decide +kernel
theorem dL_law_283 : decode cL_law 283 = .ok (.aload_n 0, 1) := by decide +kernel
theorem dL_law_284 : decode cL_law 284 = .ok (.iload 4, 2) := by decide +kernel
theorem dL_law_286 : decode cL_law 286 = .ok (.iconst 1, 1) := by decide +kernel
theorem dL_law_287 : decode cL_law 287 = .ok (.iadd, 1) := by decide +kernel
theorem dL_law_288 : decode cL_law 288 = .ok (.iaload, 1) := by decide +kernel
theorem dL_law_289 : decode cL_law 289 = .ok (.aload_n 0, 1) := by decide +kernel
theorem dL_law_290 : decode cL_law 290 = .ok (.iload 4, 2) := by decide +kernel
theorem dL_law_292 : decode cL_law 292 = .ok (.iconst 2, 1) := by decide +kernel
theorem dL_law_293 : decode cL_law 293 = .ok (.iadd, 1) := by decide +kernel
theorem dL_law_294 : decode cL_law 294 = .ok (.iaload, 1) := by decide +kernel
theorem dL_law_295 : decode cL_law 295 = .ok (.invokevirtual 94, 3) := by decide +kernel
theorem dL_law_298 : decode cL_law 298 = .ok (.istore 6, 2) := by decide +kernel
theorem dL_law_300 : decode cL_law 300 = .ok (.aload_n 2, 1) := by decide +kernel
theorem dL_law_301 : decode cL_law 301 = .ok (.invokevirtual 84, 3) := by decide +kernel
theorem dL_law_304 : decode cL_law 304 = .ok (.iload 5, 2) := by decide +kernel
theorem dL_law_306 : decode cL_law 306 = .ok (.if_icmp .eq 5, 3) := by decide +kernel
theorem dL_law_309 : decode cL_law 309 = .ok (.iconst 0, 1) := by decide +kernel
theorem dL_law_310 : decode cL_law 310 = .ok (.ireturn, 1) := by decide +kernel
theorem dL_law_311 : decode cL_law 311 = .ok (.iload 5, 2) := by decide +kernel
theorem dL_law_313 : decode cL_law 313 = .ok (.ifCond .ne 22, 3) := by decide +kernel
theorem dL_law_316 : decode cL_law 316 = .ok (.aload_n 3, 1) := by decide +kernel
theorem dL_law_317 : decode cL_law 317 = .ok (.iconst 0, 1) := by decide +kernel
theorem dL_law_318 : decode cL_law 318 = .ok (.laload, 1) := by decide +kernel
theorem dL_law_319 : decode cL_law 319 = .ok (.iload 6, 2) := by decide +kernel
theorem dL_law_321 : decode cL_law 321 = .ok (.ifCond .eq 7, 3) := by decide +kernel
theorem dL_law_324 : decode cL_law 324 = .ok (.lconst 1, 1) := by decide +kernel
theorem dL_law_325 : decode cL_law 325 = .ok (.goto 4, 3) := by decide +kernel
theorem dL_law_328 : decode cL_law 328 = .ok (.lconst 0, 1) := by decide +kernel
theorem dL_law_329 : decode cL_law 329 = .ok (.lcmp, 1) := by decide +kernel
theorem dL_law_330 : decode cL_law 330 = .ok (.ifCond .eq 5, 3) := by decide +kernel
theorem dL_law_333 : decode cL_law 333 = .ok (.iconst 0, 1) := by decide +kernel
theorem dL_law_334 : decode cL_law 334 = .ok (.ireturn, 1) := by decide +kernel
theorem dL_law_335 : decode cL_law 335 = .ok (.goto 1064, 3) := by decide +kernel
theorem dL_law_338 : decode cL_law 338 = .ok (.aload_n 1, 1) := by decide +kernel
theorem dL_law_339 : decode cL_law 339 = .ok (.aload_n 0, 1) := by decide +kernel
theorem dL_law_340 : decode cL_law 340 = .ok (.iload 4, 2) := by decide +kernel
theorem dL_law_342 : decode cL_law 342 = .ok (.iconst 1, 1) := by decide +kernel
theorem dL_law_343 : decode cL_law 343 = .ok (.iadd, 1) := by decide +kernel
theorem dL_law_344 : decode cL_law 344 = .ok (.iaload, 1) := by decide +kernel
theorem dL_law_345 : decode cL_law 345 = .ok (.aload_n 0, 1) := by decide +kernel
theorem dL_law_346 : decode cL_law 346 = .ok (.iload 4, 2) := by decide +kernel
theorem dL_law_348 : decode cL_law 348 = .ok (.iconst 2, 1) := by decide +kernel
theorem dL_law_349 : decode cL_law 349 = .ok (.iadd, 1) := by decide +kernel
theorem dL_law_350 : decode cL_law 350 = .ok (.iaload, 1) := by decide +kernel
theorem dL_law_351 : decode cL_law 351 = .ok (.aload_n 3, 1) := by decide +kernel
theorem dL_law_352 : decode cL_law 352 = .ok (.invokestatic 95, 3) := by decide +kernel
theorem dL_law_355 : decode cL_law 355 = .ok (.istore 5, 2) := by decide +kernel
theorem dL_law_357 : decode cL_law 357 = .ok (.aload_n 2, 1) := by decide +kernel
theorem dL_law_358 : decode cL_law 358 = .ok (.aload_n 0, 1) := by decide +kernel
theorem dL_law_359 : decode cL_law 359 = .ok (.iload 4, 2) := by decide +kernel
theorem dL_law_361 : decode cL_law 361 = .ok (.iconst 1, 1) := by decide +kernel
theorem dL_law_362 : decode cL_law 362 = .ok (.iadd, 1) := by decide +kernel
theorem dL_law_363 : decode cL_law 363 = .ok (.iaload, 1) := by decide +kernel
theorem dL_law_364 : decode cL_law 364 = .ok (.aload_n 0, 1) := by decide +kernel
theorem dL_law_365 : decode cL_law 365 = .ok (.iload 4, 2) := by decide +kernel
theorem dL_law_367 : decode cL_law 367 = .ok (.iconst 2, 1) := by decide +kernel
theorem dL_law_368 : decode cL_law 368 = .ok (.iadd, 1) := by decide +kernel
theorem dL_law_369 : decode cL_law 369 = .ok (.iaload, 1) := by decide +kernel
theorem dL_law_370 : decode cL_law 370 = .ok (.invokevirtual 97, 3) := by decide +kernel
theorem dL_law_373 : decode cL_law 373 = .ok (.istore 6, 2) := by decide +kernel
theorem dL_law_375 : decode cL_law 375 = .ok (.aload_n 2, 1) := by decide +kernel
theorem dL_law_376 : decode cL_law 376 = .ok (.invokevirtual 84, 3) := by decide +kernel
theorem dL_law_379 : decode cL_law 379 = .ok (.iload 5, 2) := by decide +kernel
theorem dL_law_381 : decode cL_law 381 = .ok (.if_icmp .eq 5, 3) := by decide +kernel
theorem dL_law_384 : decode cL_law 384 = .ok (.iconst 0, 1) := by decide +kernel
theorem dL_law_385 : decode cL_law 385 = .ok (.ireturn, 1) := by decide +kernel
theorem dL_law_386 : decode cL_law 386 = .ok (.iload 5, 2) := by decide +kernel
theorem dL_law_388 : decode cL_law 388 = .ok (.ifCond .ne 22, 3) := by decide +kernel
theorem dL_law_391 : decode cL_law 391 = .ok (.aload_n 3, 1) := by decide +kernel
theorem dL_law_392 : decode cL_law 392 = .ok (.iconst 0, 1) := by decide +kernel
theorem dL_law_393 : decode cL_law 393 = .ok (.laload, 1) := by decide +kernel
theorem dL_law_394 : decode cL_law 394 = .ok (.iload 6, 2) := by decide +kernel
theorem dL_law_396 : decode cL_law 396 = .ok (.ifCond .eq 7, 3) := by decide +kernel
theorem dL_law_399 : decode cL_law 399 = .ok (.lconst 1, 1) := by decide +kernel
theorem dL_law_400 : decode cL_law 400 = .ok (.goto 4, 3) := by decide +kernel
theorem dL_law_403 : decode cL_law 403 = .ok (.lconst 0, 1) := by decide +kernel
theorem dL_law_404 : decode cL_law 404 = .ok (.lcmp, 1) := by decide +kernel
theorem dL_law_405 : decode cL_law 405 = .ok (.ifCond .eq 5, 3) := by decide +kernel
theorem dL_law_408 : decode cL_law 408 = .ok (.iconst 0, 1) := by decide +kernel
theorem dL_law_409 : decode cL_law 409 = .ok (.ireturn, 1) := by decide +kernel
theorem dL_law_410 : decode cL_law 410 = .ok (.goto 989, 3) := by decide +kernel
theorem dL_law_413 : decode cL_law 413 = .ok (.aload_n 1, 1) := by decide +kernel
theorem dL_law_414 : decode cL_law 414 = .ok (.aload_n 0, 1) := by decide +kernel
theorem dL_law_415 : decode cL_law 415 = .ok (.iload 4, 2) := by decide +kernel
theorem dL_law_417 : decode cL_law 417 = .ok (.iconst 1, 1) := by decide +kernel
theorem dL_law_418 : decode cL_law 418 = .ok (.iadd, 1) := by decide +kernel
theorem dL_law_419 : decode cL_law 419 = .ok (.iaload, 1) := by decide +kernel
theorem dL_law_420 : decode cL_law 420 = .ok (.aload_n 0, 1) := by decide +kernel
theorem dL_law_421 : decode cL_law 421 = .ok (.iload 4, 2) := by decide +kernel
theorem dL_law_423 : decode cL_law 423 = .ok (.iconst 2, 1) := by decide +kernel
theorem dL_law_424 : decode cL_law 424 = .ok (.iadd, 1) := by decide +kernel
theorem dL_law_425 : decode cL_law 425 = .ok (.iaload, 1) := by decide +kernel
theorem dL_law_426 : decode cL_law 426 = .ok (.aload_n 0, 1) := by decide +kernel
theorem dL_law_427 : decode cL_law 427 = .ok (.iload 4, 2) := by decide +kernel
theorem dL_law_429 : decode cL_law 429 = .ok (.iconst 3, 1) := by decide +kernel
theorem dL_law_430 : decode cL_law 430 = .ok (.iadd, 1) := by decide +kernel
theorem dL_law_431 : decode cL_law 431 = .ok (.iaload, 1) := by decide +kernel
theorem dL_law_432 : decode cL_law 432 = .ok (.aload_n 0, 1) := by decide +kernel
theorem dL_law_433 : decode cL_law 433 = .ok (.iload 4, 2) := by decide +kernel
theorem dL_law_435 : decode cL_law 435 = .ok (.iconst 4, 1) := by decide +kernel
theorem dL_law_436 : decode cL_law 436 = .ok (.iadd, 1) := by decide +kernel
theorem dL_law_437 : decode cL_law 437 = .ok (.iaload, 1) := by decide +kernel
theorem dL_law_438 : decode cL_law 438 = .ok (.aload_n 0, 1) := by decide +kernel
theorem dL_law_439 : decode cL_law 439 = .ok (.iload 4, 2) := by decide +kernel
theorem dL_law_441 : decode cL_law 441 = .ok (.iconst 5, 1) := by decide +kernel
theorem dL_law_442 : decode cL_law 442 = .ok (.iadd, 1) := by decide +kernel
theorem dL_law_443 : decode cL_law 443 = .ok (.iaload, 1) := by decide +kernel
theorem dL_law_444 : decode cL_law 444 = .ok (.aload_n 0, 1) := by decide +kernel
theorem dL_law_445 : decode cL_law 445 = .ok (.iload 4, 2) := by decide +kernel
theorem dL_law_447 : decode cL_law 447 = .ok (.bipush 6, 2) := by decide +kernel
theorem dL_law_449 : decode cL_law 449 = .ok (.iadd, 1) := by decide +kernel
theorem dL_law_450 : decode cL_law 450 = .ok (.iaload, 1) := by decide +kernel
theorem dL_law_451 : decode cL_law 451 = .ok (.aload_n 0, 1) := by decide +kernel
theorem dL_law_452 : decode cL_law 452 = .ok (.iload 4, 2) := by decide +kernel
theorem dL_law_454 : decode cL_law 454 = .ok (.bipush 7, 2) := by decide +kernel
theorem dL_law_456 : decode cL_law 456 = .ok (.iadd, 1) := by decide +kernel
theorem dL_law_457 : decode cL_law 457 = .ok (.iaload, 1) := by decide +kernel
theorem dL_law_458 : decode cL_law 458 = .ok (.aload_n 3, 1) := by decide +kernel
theorem dL_law_459 : decode cL_law 459 = .ok (.invokestatic 98, 3) := by decide +kernel
theorem dL_law_462 : decode cL_law 462 = .ok (.istore 5, 2) := by decide +kernel
theorem dL_law_464 : decode cL_law 464 = .ok (.aload_n 2, 1) := by decide +kernel
theorem dL_law_465 : decode cL_law 465 = .ok (.aload_n 0, 1) := by decide +kernel
theorem dL_law_466 : decode cL_law 466 = .ok (.iload 4, 2) := by decide +kernel
theorem dL_law_468 : decode cL_law 468 = .ok (.iconst 1, 1) := by decide +kernel
theorem dL_law_469 : decode cL_law 469 = .ok (.iadd, 1) := by decide +kernel
theorem dL_law_470 : decode cL_law 470 = .ok (.iaload, 1) := by decide +kernel
theorem dL_law_471 : decode cL_law 471 = .ok (.aload_n 0, 1) := by decide +kernel
theorem dL_law_472 : decode cL_law 472 = .ok (.iload 4, 2) := by decide +kernel
theorem dL_law_474 : decode cL_law 474 = .ok (.iconst 2, 1) := by decide +kernel
theorem dL_law_475 : decode cL_law 475 = .ok (.iadd, 1) := by decide +kernel
theorem dL_law_476 : decode cL_law 476 = .ok (.iaload, 1) := by decide +kernel
theorem dL_law_477 : decode cL_law 477 = .ok (.aload_n 0, 1) := by decide +kernel
theorem dL_law_478 : decode cL_law 478 = .ok (.iload 4, 2) := by decide +kernel
theorem dL_law_480 : decode cL_law 480 = .ok (.iconst 3, 1) := by decide +kernel
theorem dL_law_481 : decode cL_law 481 = .ok (.iadd, 1) := by decide +kernel
theorem dL_law_482 : decode cL_law 482 = .ok (.iaload, 1) := by decide +kernel
theorem dL_law_483 : decode cL_law 483 = .ok (.aload_n 0, 1) := by decide +kernel
theorem dL_law_484 : decode cL_law 484 = .ok (.iload 4, 2) := by decide +kernel
theorem dL_law_486 : decode cL_law 486 = .ok (.iconst 4, 1) := by decide +kernel
theorem dL_law_487 : decode cL_law 487 = .ok (.iadd, 1) := by decide +kernel
theorem dL_law_488 : decode cL_law 488 = .ok (.iaload, 1) := by decide +kernel
theorem dL_law_489 : decode cL_law 489 = .ok (.aload_n 0, 1) := by decide +kernel
theorem dL_law_490 : decode cL_law 490 = .ok (.iload 4, 2) := by decide +kernel
theorem dL_law_492 : decode cL_law 492 = .ok (.iconst 5, 1) := by decide +kernel
theorem dL_law_493 : decode cL_law 493 = .ok (.iadd, 1) := by decide +kernel
theorem dL_law_494 : decode cL_law 494 = .ok (.iaload, 1) := by decide +kernel
theorem dL_law_495 : decode cL_law 495 = .ok (.aload_n 0, 1) := by decide +kernel
theorem dL_law_496 : decode cL_law 496 = .ok (.iload 4, 2) := by decide +kernel
theorem dL_law_498 : decode cL_law 498 = .ok (.bipush 6, 2) := by decide +kernel
theorem dL_law_500 : decode cL_law 500 = .ok (.iadd, 1) := by decide +kernel
theorem dL_law_501 : decode cL_law 501 = .ok (.iaload, 1) := by decide +kernel
theorem dL_law_502 : decode cL_law 502 = .ok (.aload_n 0, 1) := by decide +kernel
theorem dL_law_503 : decode cL_law 503 = .ok (.iload 4, 2) := by decide +kernel
theorem dL_law_505 : decode cL_law 505 = .ok (.bipush 7, 2) := by decide +kernel
theorem dL_law_507 : decode cL_law 507 = .ok (.iadd, 1) := by decide +kernel
theorem dL_law_508 : decode cL_law 508 = .ok (.iaload, 1) := by decide +kernel
theorem dL_law_509 : decode cL_law 509 = .ok (.invokevirtual 101, 3) := by decide +kernel
theorem dL_law_512 : decode cL_law 512 = .ok (.istore 6, 2) := by decide +kernel
theorem dL_law_514 : decode cL_law 514 = .ok (.aload_n 2, 1) := by decide +kernel
theorem dL_law_515 : decode cL_law 515 = .ok (.invokevirtual 84, 3) := by decide +kernel
theorem dL_law_518 : decode cL_law 518 = .ok (.iload 5, 2) := by decide +kernel
theorem dL_law_520 : decode cL_law 520 = .ok (.if_icmp .eq 5, 3) := by decide +kernel
theorem dL_law_523 : decode cL_law 523 = .ok (.iconst 0, 1) := by decide +kernel
theorem dL_law_524 : decode cL_law 524 = .ok (.ireturn, 1) := by decide +kernel
theorem dL_law_525 : decode cL_law 525 = .ok (.iload 5, 2) := by decide +kernel
theorem dL_law_527 : decode cL_law 527 = .ok (.ifCond .ne 15, 3) := by decide +kernel
theorem dL_law_530 : decode cL_law 530 = .ok (.aload_n 3, 1) := by decide +kernel
theorem dL_law_531 : decode cL_law 531 = .ok (.iconst 0, 1) := by decide +kernel
theorem dL_law_532 : decode cL_law 532 = .ok (.laload, 1) := by decide +kernel
theorem dL_law_533 : decode cL_law 533 = .ok (.iload 6, 2) := by decide +kernel
theorem dL_law_535 : decode cL_law 535 = .ok (.i2l, 1) := by decide +kernel
theorem dL_law_536 : decode cL_law 536 = .ok (.lcmp, 1) := by decide +kernel
theorem dL_law_537 : decode cL_law 537 = .ok (.ifCond .eq 5, 3) := by decide +kernel
theorem dL_law_540 : decode cL_law 540 = .ok (.iconst 0, 1) := by decide +kernel
theorem dL_law_541 : decode cL_law 541 = .ok (.ireturn, 1) := by decide +kernel
theorem dL_law_542 : decode cL_law 542 = .ok (.goto 857, 3) := by decide +kernel
theorem dL_law_545 : decode cL_law 545 = .ok (.aload_n 1, 1) := by decide +kernel
theorem dL_law_546 : decode cL_law 546 = .ok (.aload_n 0, 1) := by decide +kernel
theorem dL_law_547 : decode cL_law 547 = .ok (.iload 4, 2) := by decide +kernel
theorem dL_law_549 : decode cL_law 549 = .ok (.iconst 1, 1) := by decide +kernel
theorem dL_law_550 : decode cL_law 550 = .ok (.iadd, 1) := by decide +kernel
theorem dL_law_551 : decode cL_law 551 = .ok (.iaload, 1) := by decide +kernel
theorem dL_law_552 : decode cL_law 552 = .ok (.aload_n 0, 1) := by decide +kernel
theorem dL_law_553 : decode cL_law 553 = .ok (.iload 4, 2) := by decide +kernel
theorem dL_law_555 : decode cL_law 555 = .ok (.iconst 2, 1) := by decide +kernel
theorem dL_law_556 : decode cL_law 556 = .ok (.iadd, 1) := by decide +kernel
theorem dL_law_557 : decode cL_law 557 = .ok (.iaload, 1) := by decide +kernel
theorem dL_law_558 : decode cL_law 558 = .ok (.aload_n 0, 1) := by decide +kernel
theorem dL_law_559 : decode cL_law 559 = .ok (.iload 4, 2) := by decide +kernel
theorem dL_law_561 : decode cL_law 561 = .ok (.iconst 3, 1) := by decide +kernel
theorem dL_law_562 : decode cL_law 562 = .ok (.iadd, 1) := by decide +kernel
theorem dL_law_563 : decode cL_law 563 = .ok (.iaload, 1) := by decide +kernel
theorem dL_law_564 : decode cL_law 564 = .ok (.aload_n 0, 1) := by decide +kernel
theorem dL_law_565 : decode cL_law 565 = .ok (.iload 4, 2) := by decide +kernel
theorem dL_law_567 : decode cL_law 567 = .ok (.iconst 4, 1) := by decide +kernel
theorem dL_law_568 : decode cL_law 568 = .ok (.iadd, 1) := by decide +kernel
theorem dL_law_569 : decode cL_law 569 = .ok (.iaload, 1) := by decide +kernel
theorem dL_law_570 : decode cL_law 570 = .ok (.aload_n 0, 1) := by decide +kernel
theorem dL_law_571 : decode cL_law 571 = .ok (.iload 4, 2) := by decide +kernel
theorem dL_law_573 : decode cL_law 573 = .ok (.iconst 5, 1) := by decide +kernel
theorem dL_law_574 : decode cL_law 574 = .ok (.iadd, 1) := by decide +kernel
theorem dL_law_575 : decode cL_law 575 = .ok (.iaload, 1) := by decide +kernel
theorem dL_law_576 : decode cL_law 576 = .ok (.aload_n 0, 1) := by decide +kernel
theorem dL_law_577 : decode cL_law 577 = .ok (.iload 4, 2) := by decide +kernel
theorem dL_law_579 : decode cL_law 579 = .ok (.bipush 6, 2) := by decide +kernel
theorem dL_law_581 : decode cL_law 581 = .ok (.iadd, 1) := by decide +kernel
theorem dL_law_582 : decode cL_law 582 = .ok (.iaload, 1) := by decide +kernel
theorem dL_law_583 : decode cL_law 583 = .ok (.aload_n 0, 1) := by decide +kernel
theorem dL_law_584 : decode cL_law 584 = .ok (.iload 4, 2) := by decide +kernel
theorem dL_law_586 : decode cL_law 586 = .ok (.bipush 7, 2) := by decide +kernel
theorem dL_law_588 : decode cL_law 588 = .ok (.iadd, 1) := by decide +kernel
theorem dL_law_589 : decode cL_law 589 = .ok (.iaload, 1) := by decide +kernel
theorem dL_law_590 : decode cL_law 590 = .ok (.aload_n 3, 1) := by decide +kernel
theorem dL_law_591 : decode cL_law 591 = .ok (.invokestatic 102, 3) := by decide +kernel
theorem dL_law_594 : decode cL_law 594 = .ok (.istore 5, 2) := by decide +kernel
theorem dL_law_596 : decode cL_law 596 = .ok (.aload_n 2, 1) := by decide +kernel
theorem dL_law_597 : decode cL_law 597 = .ok (.aload_n 0, 1) := by decide +kernel
theorem dL_law_598 : decode cL_law 598 = .ok (.iload 4, 2) := by decide +kernel
theorem dL_law_600 : decode cL_law 600 = .ok (.iconst 1, 1) := by decide +kernel
theorem dL_law_601 : decode cL_law 601 = .ok (.iadd, 1) := by decide +kernel
theorem dL_law_602 : decode cL_law 602 = .ok (.iaload, 1) := by decide +kernel
theorem dL_law_603 : decode cL_law 603 = .ok (.aload_n 0, 1) := by decide +kernel
theorem dL_law_604 : decode cL_law 604 = .ok (.iload 4, 2) := by decide +kernel
theorem dL_law_606 : decode cL_law 606 = .ok (.iconst 2, 1) := by decide +kernel
theorem dL_law_607 : decode cL_law 607 = .ok (.iadd, 1) := by decide +kernel
theorem dL_law_608 : decode cL_law 608 = .ok (.iaload, 1) := by decide +kernel
theorem dL_law_609 : decode cL_law 609 = .ok (.aload_n 0, 1) := by decide +kernel
theorem dL_law_610 : decode cL_law 610 = .ok (.iload 4, 2) := by decide +kernel
theorem dL_law_612 : decode cL_law 612 = .ok (.iconst 3, 1) := by decide +kernel
theorem dL_law_613 : decode cL_law 613 = .ok (.iadd, 1) := by decide +kernel
theorem dL_law_614 : decode cL_law 614 = .ok (.iaload, 1) := by decide +kernel
theorem dL_law_615 : decode cL_law 615 = .ok (.aload_n 0, 1) := by decide +kernel
theorem dL_law_616 : decode cL_law 616 = .ok (.iload 4, 2) := by decide +kernel
theorem dL_law_618 : decode cL_law 618 = .ok (.iconst 4, 1) := by decide +kernel
theorem dL_law_619 : decode cL_law 619 = .ok (.iadd, 1) := by decide +kernel
theorem dL_law_620 : decode cL_law 620 = .ok (.iaload, 1) := by decide +kernel
theorem dL_law_621 : decode cL_law 621 = .ok (.aload_n 0, 1) := by decide +kernel
theorem dL_law_622 : decode cL_law 622 = .ok (.iload 4, 2) := by decide +kernel
theorem dL_law_624 : decode cL_law 624 = .ok (.iconst 5, 1) := by decide +kernel
theorem dL_law_625 : decode cL_law 625 = .ok (.iadd, 1) := by decide +kernel
theorem dL_law_626 : decode cL_law 626 = .ok (.iaload, 1) := by decide +kernel
theorem dL_law_627 : decode cL_law 627 = .ok (.aload_n 0, 1) := by decide +kernel
theorem dL_law_628 : decode cL_law 628 = .ok (.iload 4, 2) := by decide +kernel
theorem dL_law_630 : decode cL_law 630 = .ok (.bipush 6, 2) := by decide +kernel
theorem dL_law_632 : decode cL_law 632 = .ok (.iadd, 1) := by decide +kernel
theorem dL_law_633 : decode cL_law 633 = .ok (.iaload, 1) := by decide +kernel
theorem dL_law_634 : decode cL_law 634 = .ok (.aload_n 0, 1) := by decide +kernel
theorem dL_law_635 : decode cL_law 635 = .ok (.iload 4, 2) := by decide +kernel
theorem dL_law_637 : decode cL_law 637 = .ok (.bipush 7, 2) := by decide +kernel
theorem dL_law_639 : decode cL_law 639 = .ok (.iadd, 1) := by decide +kernel
theorem dL_law_640 : decode cL_law 640 = .ok (.iaload, 1) := by decide +kernel
theorem dL_law_641 : decode cL_law 641 = .ok (.invokevirtual 104, 3) := by decide +kernel
theorem dL_law_644 : decode cL_law 644 = .ok (.istore 6, 2) := by decide +kernel
theorem dL_law_646 : decode cL_law 646 = .ok (.aload_n 2, 1) := by decide +kernel
theorem dL_law_647 : decode cL_law 647 = .ok (.invokevirtual 84, 3) := by decide +kernel
theorem dL_law_650 : decode cL_law 650 = .ok (.iload 5, 2) := by decide +kernel
theorem dL_law_652 : decode cL_law 652 = .ok (.if_icmp .eq 5, 3) := by decide +kernel
theorem dL_law_655 : decode cL_law 655 = .ok (.iconst 0, 1) := by decide +kernel
theorem dL_law_656 : decode cL_law 656 = .ok (.ireturn, 1) := by decide +kernel
theorem dL_law_657 : decode cL_law 657 = .ok (.iload 5, 2) := by decide +kernel
theorem dL_law_659 : decode cL_law 659 = .ok (.ifCond .ne 15, 3) := by decide +kernel
theorem dL_law_662 : decode cL_law 662 = .ok (.aload_n 3, 1) := by decide +kernel
theorem dL_law_663 : decode cL_law 663 = .ok (.iconst 0, 1) := by decide +kernel
theorem dL_law_664 : decode cL_law 664 = .ok (.laload, 1) := by decide +kernel
theorem dL_law_665 : decode cL_law 665 = .ok (.iload 6, 2) := by decide +kernel
theorem dL_law_667 : decode cL_law 667 = .ok (.i2l, 1) := by decide +kernel
theorem dL_law_668 : decode cL_law 668 = .ok (.lcmp, 1) := by decide +kernel
theorem dL_law_669 : decode cL_law 669 = .ok (.ifCond .eq 5, 3) := by decide +kernel
theorem dL_law_672 : decode cL_law 672 = .ok (.iconst 0, 1) := by decide +kernel
theorem dL_law_673 : decode cL_law 673 = .ok (.ireturn, 1) := by decide +kernel
theorem dL_law_674 : decode cL_law 674 = .ok (.goto 725, 3) := by decide +kernel
theorem dL_law_677 : decode cL_law 677 = .ok (.aload_n 1, 1) := by decide +kernel
theorem dL_law_678 : decode cL_law 678 = .ok (.aload_n 0, 1) := by decide +kernel
theorem dL_law_679 : decode cL_law 679 = .ok (.iload 4, 2) := by decide +kernel
theorem dL_law_681 : decode cL_law 681 = .ok (.iconst 1, 1) := by decide +kernel
theorem dL_law_682 : decode cL_law 682 = .ok (.iadd, 1) := by decide +kernel
theorem dL_law_683 : decode cL_law 683 = .ok (.iaload, 1) := by decide +kernel
theorem dL_law_684 : decode cL_law 684 = .ok (.aload_n 0, 1) := by decide +kernel
theorem dL_law_685 : decode cL_law 685 = .ok (.iload 4, 2) := by decide +kernel
theorem dL_law_687 : decode cL_law 687 = .ok (.iconst 2, 1) := by decide +kernel
theorem dL_law_688 : decode cL_law 688 = .ok (.iadd, 1) := by decide +kernel
theorem dL_law_689 : decode cL_law 689 = .ok (.iaload, 1) := by decide +kernel
theorem dL_law_690 : decode cL_law 690 = .ok (.aload_n 3, 1) := by decide +kernel
theorem dL_law_691 : decode cL_law 691 = .ok (.invokestatic 105, 3) := by decide +kernel
theorem dL_law_694 : decode cL_law 694 = .ok (.istore 5, 2) := by decide +kernel
theorem dL_law_696 : decode cL_law 696 = .ok (.aload_n 2, 1) := by decide +kernel
theorem dL_law_697 : decode cL_law 697 = .ok (.aload_n 0, 1) := by decide +kernel
theorem dL_law_698 : decode cL_law 698 = .ok (.iload 4, 2) := by decide +kernel
theorem dL_law_700 : decode cL_law 700 = .ok (.iconst 1, 1) := by decide +kernel
theorem dL_law_701 : decode cL_law 701 = .ok (.iadd, 1) := by decide +kernel
theorem dL_law_702 : decode cL_law 702 = .ok (.iaload, 1) := by decide +kernel
theorem dL_law_703 : decode cL_law 703 = .ok (.aload_n 0, 1) := by decide +kernel
theorem dL_law_704 : decode cL_law 704 = .ok (.iload 4, 2) := by decide +kernel
theorem dL_law_706 : decode cL_law 706 = .ok (.iconst 2, 1) := by decide +kernel
theorem dL_law_707 : decode cL_law 707 = .ok (.iadd, 1) := by decide +kernel
theorem dL_law_708 : decode cL_law 708 = .ok (.iaload, 1) := by decide +kernel
theorem dL_law_709 : decode cL_law 709 = .ok (.invokevirtual 107, 3) := by decide +kernel
theorem dL_law_712 : decode cL_law 712 = .ok (.istore 6, 2) := by decide +kernel
theorem dL_law_714 : decode cL_law 714 = .ok (.aload_n 2, 1) := by decide +kernel
theorem dL_law_715 : decode cL_law 715 = .ok (.invokevirtual 84, 3) := by decide +kernel
theorem dL_law_718 : decode cL_law 718 = .ok (.iload 5, 2) := by decide +kernel
theorem dL_law_720 : decode cL_law 720 = .ok (.if_icmp .eq 5, 3) := by decide +kernel
theorem dL_law_723 : decode cL_law 723 = .ok (.iconst 0, 1) := by decide +kernel
theorem dL_law_724 : decode cL_law 724 = .ok (.ireturn, 1) := by decide +kernel
theorem dL_law_725 : decode cL_law 725 = .ok (.iload 5, 2) := by decide +kernel
theorem dL_law_727 : decode cL_law 727 = .ok (.ifCond .ne 22, 3) := by decide +kernel
theorem dL_law_730 : decode cL_law 730 = .ok (.aload_n 3, 1) := by decide +kernel
theorem dL_law_731 : decode cL_law 731 = .ok (.iconst 0, 1) := by decide +kernel
theorem dL_law_732 : decode cL_law 732 = .ok (.laload, 1) := by decide +kernel
theorem dL_law_733 : decode cL_law 733 = .ok (.iload 6, 2) := by decide +kernel
theorem dL_law_735 : decode cL_law 735 = .ok (.ifCond .eq 7, 3) := by decide +kernel
theorem dL_law_738 : decode cL_law 738 = .ok (.lconst 1, 1) := by decide +kernel
theorem dL_law_739 : decode cL_law 739 = .ok (.goto 4, 3) := by decide +kernel
theorem dL_law_742 : decode cL_law 742 = .ok (.lconst 0, 1) := by decide +kernel
theorem dL_law_743 : decode cL_law 743 = .ok (.lcmp, 1) := by decide +kernel
theorem dL_law_744 : decode cL_law 744 = .ok (.ifCond .eq 5, 3) := by decide +kernel
theorem dL_law_747 : decode cL_law 747 = .ok (.iconst 0, 1) := by decide +kernel
theorem dL_law_748 : decode cL_law 748 = .ok (.ireturn, 1) := by decide +kernel
theorem dL_law_749 : decode cL_law 749 = .ok (.goto 650, 3) := by decide +kernel
theorem dL_law_752 : decode cL_law 752 = .ok (.aload_n 1, 1) := by decide +kernel
theorem dL_law_753 : decode cL_law 753 = .ok (.aload_n 0, 1) := by decide +kernel
theorem dL_law_754 : decode cL_law 754 = .ok (.iload 4, 2) := by decide +kernel
theorem dL_law_756 : decode cL_law 756 = .ok (.iconst 1, 1) := by decide +kernel
theorem dL_law_757 : decode cL_law 757 = .ok (.iadd, 1) := by decide +kernel
theorem dL_law_758 : decode cL_law 758 = .ok (.iaload, 1) := by decide +kernel
theorem dL_law_759 : decode cL_law 759 = .ok (.invokestatic 108, 3) := by decide +kernel
theorem dL_law_762 : decode cL_law 762 = .ok (.istore 5, 2) := by decide +kernel
theorem dL_law_764 : decode cL_law 764 = .ok (.aload_n 2, 1) := by decide +kernel
theorem dL_law_765 : decode cL_law 765 = .ok (.aload_n 0, 1) := by decide +kernel
theorem dL_law_766 : decode cL_law 766 = .ok (.iload 4, 2) := by decide +kernel
theorem dL_law_768 : decode cL_law 768 = .ok (.iconst 1, 1) := by decide +kernel
theorem dL_law_769 : decode cL_law 769 = .ok (.iadd, 1) := by decide +kernel
theorem dL_law_770 : decode cL_law 770 = .ok (.iaload, 1) := by decide +kernel
theorem dL_law_771 : decode cL_law 771 = .ok (.invokevirtual 111, 3) := by decide +kernel
theorem dL_law_774 : decode cL_law 774 = .ok (.aload_n 2, 1) := by decide +kernel
theorem dL_law_775 : decode cL_law 775 = .ok (.invokevirtual 84, 3) := by decide +kernel
theorem dL_law_778 : decode cL_law 778 = .ok (.iload 5, 2) := by decide +kernel
theorem dL_law_780 : decode cL_law 780 = .ok (.if_icmp .eq 5, 3) := by decide +kernel
theorem dL_law_783 : decode cL_law 783 = .ok (.iconst 0, 1) := by decide +kernel
theorem dL_law_784 : decode cL_law 784 = .ok (.ireturn, 1) := by decide +kernel
theorem dL_law_785 : decode cL_law 785 = .ok (.goto 614, 3) := by decide +kernel
theorem dL_law_788 : decode cL_law 788 = .ok (.aload_n 1, 1) := by decide +kernel
theorem dL_law_789 : decode cL_law 789 = .ok (.aload_n 0, 1) := by decide +kernel
theorem dL_law_790 : decode cL_law 790 = .ok (.iload 4, 2) := by decide +kernel
theorem dL_law_792 : decode cL_law 792 = .ok (.iconst 1, 1) := by decide +kernel
theorem dL_law_793 : decode cL_law 793 = .ok (.iadd, 1) := by decide +kernel
theorem dL_law_794 : decode cL_law 794 = .ok (.iaload, 1) := by decide +kernel
theorem dL_law_795 : decode cL_law 795 = .ok (.aload_n 3, 1) := by decide +kernel
theorem dL_law_796 : decode cL_law 796 = .ok (.invokestatic 112, 3) := by decide +kernel
theorem dL_law_799 : decode cL_law 799 = .ok (.istore 5, 2) := by decide +kernel
theorem dL_law_801 : decode cL_law 801 = .ok (.aload_n 2, 1) := by decide +kernel
theorem dL_law_802 : decode cL_law 802 = .ok (.aload_n 0, 1) := by decide +kernel
theorem dL_law_803 : decode cL_law 803 = .ok (.iload 4, 2) := by decide +kernel
theorem dL_law_805 : decode cL_law 805 = .ok (.iconst 1, 1) := by decide +kernel
theorem dL_law_806 : decode cL_law 806 = .ok (.iadd, 1) := by decide +kernel
theorem dL_law_807 : decode cL_law 807 = .ok (.iaload, 1) := by decide +kernel
theorem dL_law_808 : decode cL_law 808 = .ok (.invokevirtual 114, 3) := by decide +kernel
theorem dL_law_811 : decode cL_law 811 = .ok (.istore 6, 2) := by decide +kernel
theorem dL_law_813 : decode cL_law 813 = .ok (.aload_n 2, 1) := by decide +kernel
theorem dL_law_814 : decode cL_law 814 = .ok (.invokevirtual 84, 3) := by decide +kernel
theorem dL_law_817 : decode cL_law 817 = .ok (.iload 5, 2) := by decide +kernel
theorem dL_law_819 : decode cL_law 819 = .ok (.if_icmp .eq 5, 3) := by decide +kernel
theorem dL_law_822 : decode cL_law 822 = .ok (.iconst 0, 1) := by decide +kernel
theorem dL_law_823 : decode cL_law 823 = .ok (.ireturn, 1) := by decide +kernel
theorem dL_law_824 : decode cL_law 824 = .ok (.iload 5, 2) := by decide +kernel
theorem dL_law_826 : decode cL_law 826 = .ok (.ifCond .ne 15, 3) := by decide +kernel
theorem dL_law_829 : decode cL_law 829 = .ok (.aload_n 3, 1) := by decide +kernel
theorem dL_law_830 : decode cL_law 830 = .ok (.iconst 0, 1) := by decide +kernel
theorem dL_law_831 : decode cL_law 831 = .ok (.laload, 1) := by decide +kernel
theorem dL_law_832 : decode cL_law 832 = .ok (.iload 6, 2) := by decide +kernel
theorem dL_law_834 : decode cL_law 834 = .ok (.i2l, 1) := by decide +kernel
theorem dL_law_835 : decode cL_law 835 = .ok (.lcmp, 1) := by decide +kernel
theorem dL_law_836 : decode cL_law 836 = .ok (.ifCond .eq 5, 3) := by decide +kernel
theorem dL_law_839 : decode cL_law 839 = .ok (.iconst 0, 1) := by decide +kernel
theorem dL_law_840 : decode cL_law 840 = .ok (.ireturn, 1) := by decide +kernel
theorem dL_law_841 : decode cL_law 841 = .ok (.goto 558, 3) := by decide +kernel
theorem dL_law_844 : decode cL_law 844 = .ok (.aload_n 1, 1) := by decide +kernel
theorem dL_law_845 : decode cL_law 845 = .ok (.aload_n 0, 1) := by decide +kernel
theorem dL_law_846 : decode cL_law 846 = .ok (.iload 4, 2) := by decide +kernel
theorem dL_law_848 : decode cL_law 848 = .ok (.iconst 1, 1) := by decide +kernel
theorem dL_law_849 : decode cL_law 849 = .ok (.iadd, 1) := by decide +kernel
theorem dL_law_850 : decode cL_law 850 = .ok (.iaload, 1) := by decide +kernel
theorem dL_law_851 : decode cL_law 851 = .ok (.aload_n 0, 1) := by decide +kernel
theorem dL_law_852 : decode cL_law 852 = .ok (.iload 4, 2) := by decide +kernel
theorem dL_law_854 : decode cL_law 854 = .ok (.iconst 2, 1) := by decide +kernel
theorem dL_law_855 : decode cL_law 855 = .ok (.iadd, 1) := by decide +kernel
theorem dL_law_856 : decode cL_law 856 = .ok (.iaload, 1) := by decide +kernel
theorem dL_law_857 : decode cL_law 857 = .ok (.aload_n 3, 1) := by decide +kernel
theorem dL_law_858 : decode cL_law 858 = .ok (.invokestatic 115, 3) := by decide +kernel
theorem dL_law_861 : decode cL_law 861 = .ok (.istore 5, 2) := by decide +kernel
theorem dL_law_863 : decode cL_law 863 = .ok (.aload_n 2, 1) := by decide +kernel
theorem dL_law_864 : decode cL_law 864 = .ok (.aload_n 0, 1) := by decide +kernel
theorem dL_law_865 : decode cL_law 865 = .ok (.iload 4, 2) := by decide +kernel
theorem dL_law_867 : decode cL_law 867 = .ok (.iconst 1, 1) := by decide +kernel
theorem dL_law_868 : decode cL_law 868 = .ok (.iadd, 1) := by decide +kernel
theorem dL_law_869 : decode cL_law 869 = .ok (.iaload, 1) := by decide +kernel
theorem dL_law_870 : decode cL_law 870 = .ok (.aload_n 0, 1) := by decide +kernel
theorem dL_law_871 : decode cL_law 871 = .ok (.iload 4, 2) := by decide +kernel
theorem dL_law_873 : decode cL_law 873 = .ok (.iconst 2, 1) := by decide +kernel
theorem dL_law_874 : decode cL_law 874 = .ok (.iadd, 1) := by decide +kernel
theorem dL_law_875 : decode cL_law 875 = .ok (.iaload, 1) := by decide +kernel
theorem dL_law_876 : decode cL_law 876 = .ok (.invokevirtual 117, 3) := by decide +kernel
theorem dL_law_879 : decode cL_law 879 = .ok (.istore 6, 2) := by decide +kernel
theorem dL_law_881 : decode cL_law 881 = .ok (.aload_n 2, 1) := by decide +kernel
theorem dL_law_882 : decode cL_law 882 = .ok (.invokevirtual 84, 3) := by decide +kernel
theorem dL_law_885 : decode cL_law 885 = .ok (.iload 5, 2) := by decide +kernel
theorem dL_law_887 : decode cL_law 887 = .ok (.if_icmp .eq 5, 3) := by decide +kernel
theorem dL_law_890 : decode cL_law 890 = .ok (.iconst 0, 1) := by decide +kernel
theorem dL_law_891 : decode cL_law 891 = .ok (.ireturn, 1) := by decide +kernel
theorem dL_law_892 : decode cL_law 892 = .ok (.iload 5, 2) := by decide +kernel
theorem dL_law_894 : decode cL_law 894 = .ok (.ifCond .ne 15, 3) := by decide +kernel
theorem dL_law_897 : decode cL_law 897 = .ok (.aload_n 3, 1) := by decide +kernel
theorem dL_law_898 : decode cL_law 898 = .ok (.iconst 0, 1) := by decide +kernel
theorem dL_law_899 : decode cL_law 899 = .ok (.laload, 1) := by decide +kernel
theorem dL_law_900 : decode cL_law 900 = .ok (.iload 6, 2) := by decide +kernel
theorem dL_law_902 : decode cL_law 902 = .ok (.i2l, 1) := by decide +kernel
theorem dL_law_903 : decode cL_law 903 = .ok (.lcmp, 1) := by decide +kernel
theorem dL_law_904 : decode cL_law 904 = .ok (.ifCond .eq 5, 3) := by decide +kernel
theorem dL_law_907 : decode cL_law 907 = .ok (.iconst 0, 1) := by decide +kernel
theorem dL_law_908 : decode cL_law 908 = .ok (.ireturn, 1) := by decide +kernel
theorem dL_law_909 : decode cL_law 909 = .ok (.goto 490, 3) := by decide +kernel
theorem dL_law_912 : decode cL_law 912 = .ok (.aload_n 1, 1) := by decide +kernel
theorem dL_law_913 : decode cL_law 913 = .ok (.aload_n 0, 1) := by decide +kernel
theorem dL_law_914 : decode cL_law 914 = .ok (.iload 4, 2) := by decide +kernel
theorem dL_law_916 : decode cL_law 916 = .ok (.iconst 1, 1) := by decide +kernel
theorem dL_law_917 : decode cL_law 917 = .ok (.iadd, 1) := by decide +kernel
theorem dL_law_918 : decode cL_law 918 = .ok (.iaload, 1) := by decide +kernel
theorem dL_law_919 : decode cL_law 919 = .ok (.i2c, 1) := by decide +kernel
theorem dL_law_920 : decode cL_law 920 = .ok (.aload_n 3, 1) := by decide +kernel
theorem dL_law_921 : decode cL_law 921 = .ok (.invokestatic 118, 3) := by decide +kernel
theorem dL_law_924 : decode cL_law 924 = .ok (.istore 5, 2) := by decide +kernel
theorem dL_law_926 : decode cL_law 926 = .ok (.aload_n 2, 1) := by decide +kernel
theorem dL_law_927 : decode cL_law 927 = .ok (.aload_n 0, 1) := by decide +kernel
theorem dL_law_928 : decode cL_law 928 = .ok (.iload 4, 2) := by decide +kernel
theorem dL_law_930 : decode cL_law 930 = .ok (.iconst 1, 1) := by decide +kernel
theorem dL_law_931 : decode cL_law 931 = .ok (.iadd, 1) := by decide +kernel
theorem dL_law_932 : decode cL_law 932 = .ok (.iaload, 1) := by decide +kernel
theorem dL_law_933 : decode cL_law 933 = .ok (.i2c, 1) := by decide +kernel
theorem dL_law_934 : decode cL_law 934 = .ok (.invokevirtual 121, 3) := by decide +kernel
theorem dL_law_937 : decode cL_law 937 = .ok (.istore 6, 2) := by decide +kernel
theorem dL_law_939 : decode cL_law 939 = .ok (.aload_n 2, 1) := by decide +kernel
theorem dL_law_940 : decode cL_law 940 = .ok (.invokevirtual 84, 3) := by decide +kernel
theorem dL_law_943 : decode cL_law 943 = .ok (.iload 5, 2) := by decide +kernel
theorem dL_law_945 : decode cL_law 945 = .ok (.if_icmp .eq 5, 3) := by decide +kernel
theorem dL_law_948 : decode cL_law 948 = .ok (.iconst 0, 1) := by decide +kernel
theorem dL_law_949 : decode cL_law 949 = .ok (.ireturn, 1) := by decide +kernel
theorem dL_law_950 : decode cL_law 950 = .ok (.iload 5, 2) := by decide +kernel
theorem dL_law_952 : decode cL_law 952 = .ok (.ifCond .ne 15, 3) := by decide +kernel
theorem dL_law_955 : decode cL_law 955 = .ok (.aload_n 3, 1) := by decide +kernel
theorem dL_law_956 : decode cL_law 956 = .ok (.iconst 0, 1) := by decide +kernel
theorem dL_law_957 : decode cL_law 957 = .ok (.laload, 1) := by decide +kernel
theorem dL_law_958 : decode cL_law 958 = .ok (.iload 6, 2) := by decide +kernel
theorem dL_law_960 : decode cL_law 960 = .ok (.i2l, 1) := by decide +kernel
theorem dL_law_961 : decode cL_law 961 = .ok (.lcmp, 1) := by decide +kernel
theorem dL_law_962 : decode cL_law 962 = .ok (.ifCond .eq 5, 3) := by decide +kernel
theorem dL_law_965 : decode cL_law 965 = .ok (.iconst 0, 1) := by decide +kernel
theorem dL_law_966 : decode cL_law 966 = .ok (.ireturn, 1) := by decide +kernel
theorem dL_law_967 : decode cL_law 967 = .ok (.goto 432, 3) := by decide +kernel
theorem dL_law_970 : decode cL_law 970 = .ok (.aload_n 1, 1) := by decide +kernel
theorem dL_law_971 : decode cL_law 971 = .ok (.invokevirtual 122, 3) := by decide +kernel
theorem dL_law_974 : decode cL_law 974 = .ok (.aload_n 2, 1) := by decide +kernel
theorem dL_law_975 : decode cL_law 975 = .ok (.invokevirtual 125, 3) := by decide +kernel
theorem dL_law_978 : decode cL_law 978 = .ok (.if_icmp .eq 421, 3) := by decide +kernel
theorem dL_law_981 : decode cL_law 981 = .ok (.iconst 0, 1) := by decide +kernel
theorem dL_law_982 : decode cL_law 982 = .ok (.ireturn, 1) := by decide +kernel
theorem dL_law_983 : decode cL_law 983 = .ok (.aload_n 1, 1) := by decide +kernel
theorem dL_law_984 : decode cL_law 984 = .ok (.aload_n 0, 1) := by decide +kernel
theorem dL_law_985 : decode cL_law 985 = .ok (.iload 4, 2) := by decide +kernel
theorem dL_law_987 : decode cL_law 987 = .ok (.iconst 1, 1) := by decide +kernel
theorem dL_law_988 : decode cL_law 988 = .ok (.iadd, 1) := by decide +kernel
theorem dL_law_989 : decode cL_law 989 = .ok (.iaload, 1) := by decide +kernel
theorem dL_law_990 : decode cL_law 990 = .ok (.aload_n 3, 1) := by decide +kernel
theorem dL_law_991 : decode cL_law 991 = .ok (.invokestatic 126, 3) := by decide +kernel
theorem dL_law_994 : decode cL_law 994 = .ok (.istore 5, 2) := by decide +kernel
theorem dL_law_996 : decode cL_law 996 = .ok (.aload_n 2, 1) := by decide +kernel
theorem dL_law_997 : decode cL_law 997 = .ok (.aload_n 0, 1) := by decide +kernel
theorem dL_law_998 : decode cL_law 998 = .ok (.iload 4, 2) := by decide +kernel
theorem dL_law_1000 : decode cL_law 1000 = .ok (.iconst 1, 1) := by decide +kernel
theorem dL_law_1001 : decode cL_law 1001 = .ok (.iadd, 1) := by decide +kernel
theorem dL_law_1002 : decode cL_law 1002 = .ok (.iaload, 1) := by decide +kernel
theorem dL_law_1003 : decode cL_law 1003 = .ok (.invokevirtual 128, 3) := by decide +kernel
theorem dL_law_1006 : decode cL_law 1006 = .ok (.istore 6, 2) := by decide +kernel
theorem dL_law_1008 : decode cL_law 1008 = .ok (.aload_n 2, 1) := by decide +kernel
theorem dL_law_1009 : decode cL_law 1009 = .ok (.invokevirtual 84, 3) := by decide +kernel
theorem dL_law_1012 : decode cL_law 1012 = .ok (.iload 5, 2) := by decide +kernel
theorem dL_law_1014 : decode cL_law 1014 = .ok (.if_icmp .eq 5, 3) := by decide +kernel
theorem dL_law_1017 : decode cL_law 1017 = .ok (.iconst 0, 1) := by decide +kernel
theorem dL_law_1018 : decode cL_law 1018 = .ok (.ireturn, 1) := by decide +kernel
theorem dL_law_1019 : decode cL_law 1019 = .ok (.iload 5, 2) := by decide +kernel
theorem dL_law_1021 : decode cL_law 1021 = .ok (.ifCond .ne 22, 3) := by decide +kernel
theorem dL_law_1024 : decode cL_law 1024 = .ok (.aload_n 3, 1) := by decide +kernel
theorem dL_law_1025 : decode cL_law 1025 = .ok (.iconst 0, 1) := by decide +kernel
theorem dL_law_1026 : decode cL_law 1026 = .ok (.laload, 1) := by decide +kernel
theorem dL_law_1027 : decode cL_law 1027 = .ok (.iload 6, 2) := by decide +kernel
theorem dL_law_1029 : decode cL_law 1029 = .ok (.ifCond .eq 7, 3) := by decide +kernel
theorem dL_law_1032 : decode cL_law 1032 = .ok (.lconst 1, 1) := by decide +kernel
theorem dL_law_1033 : decode cL_law 1033 = .ok (.goto 4, 3) := by decide +kernel
theorem dL_law_1036 : decode cL_law 1036 = .ok (.lconst 0, 1) := by decide +kernel
theorem dL_law_1037 : decode cL_law 1037 = .ok (.lcmp, 1) := by decide +kernel
theorem dL_law_1038 : decode cL_law 1038 = .ok (.ifCond .eq 5, 3) := by decide +kernel
theorem dL_law_1041 : decode cL_law 1041 = .ok (.iconst 0, 1) := by decide +kernel
theorem dL_law_1042 : decode cL_law 1042 = .ok (.ireturn, 1) := by decide +kernel
theorem dL_law_1043 : decode cL_law 1043 = .ok (.goto 356, 3) := by decide +kernel
theorem dL_law_1046 : decode cL_law 1046 = .ok (.aload_n 1, 1) := by decide +kernel
theorem dL_law_1047 : decode cL_law 1047 = .ok (.aload_n 0, 1) := by decide +kernel
theorem dL_law_1048 : decode cL_law 1048 = .ok (.iload 4, 2) := by decide +kernel
theorem dL_law_1050 : decode cL_law 1050 = .ok (.iconst 1, 1) := by decide +kernel
theorem dL_law_1051 : decode cL_law 1051 = .ok (.iadd, 1) := by decide +kernel
theorem dL_law_1052 : decode cL_law 1052 = .ok (.iaload, 1) := by decide +kernel
theorem dL_law_1053 : decode cL_law 1053 = .ok (.aload_n 0, 1) := by decide +kernel
theorem dL_law_1054 : decode cL_law 1054 = .ok (.iload 4, 2) := by decide +kernel
theorem dL_law_1056 : decode cL_law 1056 = .ok (.iconst 2, 1) := by decide +kernel
theorem dL_law_1057 : decode cL_law 1057 = .ok (.iadd, 1) := by decide +kernel
theorem dL_law_1058 : decode cL_law 1058 = .ok (.iaload, 1) := by decide +kernel
theorem dL_law_1059 : decode cL_law 1059 = .ok (.aload_n 3, 1) := by decide +kernel
theorem dL_law_1060 : decode cL_law 1060 = .ok (.invokestatic 129, 3) := by decide +kernel
theorem dL_law_1063 : decode cL_law 1063 = .ok (.istore 5, 2) := by decide +kernel
theorem dL_law_1065 : decode cL_law 1065 = .ok (.aload_n 2, 1) := by decide +kernel
theorem dL_law_1066 : decode cL_law 1066 = .ok (.aload_n 0, 1) := by decide +kernel
theorem dL_law_1067 : decode cL_law 1067 = .ok (.iload 4, 2) := by decide +kernel
theorem dL_law_1069 : decode cL_law 1069 = .ok (.iconst 1, 1) := by decide +kernel
theorem dL_law_1070 : decode cL_law 1070 = .ok (.iadd, 1) := by decide +kernel
theorem dL_law_1071 : decode cL_law 1071 = .ok (.iaload, 1) := by decide +kernel
theorem dL_law_1072 : decode cL_law 1072 = .ok (.aload_n 0, 1) := by decide +kernel
theorem dL_law_1073 : decode cL_law 1073 = .ok (.iload 4, 2) := by decide +kernel
theorem dL_law_1075 : decode cL_law 1075 = .ok (.iconst 2, 1) := by decide +kernel
theorem dL_law_1076 : decode cL_law 1076 = .ok (.iadd, 1) := by decide +kernel
theorem dL_law_1077 : decode cL_law 1077 = .ok (.iaload, 1) := by decide +kernel
theorem dL_law_1078 : decode cL_law 1078 = .ok (.invokevirtual 131, 3) := by decide +kernel
theorem dL_law_1081 : decode cL_law 1081 = .ok (.istore 6, 2) := by decide +kernel
theorem dL_law_1083 : decode cL_law 1083 = .ok (.aload_n 2, 1) := by decide +kernel
theorem dL_law_1084 : decode cL_law 1084 = .ok (.invokevirtual 84, 3) := by decide +kernel
theorem dL_law_1087 : decode cL_law 1087 = .ok (.iload 5, 2) := by decide +kernel
theorem dL_law_1089 : decode cL_law 1089 = .ok (.if_icmp .eq 5, 3) := by decide +kernel
theorem dL_law_1092 : decode cL_law 1092 = .ok (.iconst 0, 1) := by decide +kernel
theorem dL_law_1093 : decode cL_law 1093 = .ok (.ireturn, 1) := by decide +kernel
theorem dL_law_1094 : decode cL_law 1094 = .ok (.iload 5, 2) := by decide +kernel
theorem dL_law_1096 : decode cL_law 1096 = .ok (.ifCond .ne 15, 3) := by decide +kernel
theorem dL_law_1099 : decode cL_law 1099 = .ok (.aload_n 3, 1) := by decide +kernel
theorem dL_law_1100 : decode cL_law 1100 = .ok (.iconst 0, 1) := by decide +kernel
theorem dL_law_1101 : decode cL_law 1101 = .ok (.laload, 1) := by decide +kernel
theorem dL_law_1102 : decode cL_law 1102 = .ok (.iload 6, 2) := by decide +kernel
theorem dL_law_1104 : decode cL_law 1104 = .ok (.i2l, 1) := by decide +kernel
theorem dL_law_1105 : decode cL_law 1105 = .ok (.lcmp, 1) := by decide +kernel
theorem dL_law_1106 : decode cL_law 1106 = .ok (.ifCond .eq 5, 3) := by decide +kernel
theorem dL_law_1109 : decode cL_law 1109 = .ok (.iconst 0, 1) := by decide +kernel
theorem dL_law_1110 : decode cL_law 1110 = .ok (.ireturn, 1) := by decide +kernel
theorem dL_law_1111 : decode cL_law 1111 = .ok (.goto 288, 3) := by decide +kernel
theorem dL_law_1114 : decode cL_law 1114 = .ok (.aload_n 1, 1) := by decide +kernel
theorem dL_law_1115 : decode cL_law 1115 = .ok (.aload_n 0, 1) := by decide +kernel
theorem dL_law_1116 : decode cL_law 1116 = .ok (.iload 4, 2) := by decide +kernel
theorem dL_law_1118 : decode cL_law 1118 = .ok (.iconst 1, 1) := by decide +kernel
theorem dL_law_1119 : decode cL_law 1119 = .ok (.iadd, 1) := by decide +kernel
theorem dL_law_1120 : decode cL_law 1120 = .ok (.iaload, 1) := by decide +kernel
theorem dL_law_1121 : decode cL_law 1121 = .ok (.aload_n 0, 1) := by decide +kernel
theorem dL_law_1122 : decode cL_law 1122 = .ok (.iload 4, 2) := by decide +kernel
theorem dL_law_1124 : decode cL_law 1124 = .ok (.iconst 2, 1) := by decide +kernel
theorem dL_law_1125 : decode cL_law 1125 = .ok (.iadd, 1) := by decide +kernel
theorem dL_law_1126 : decode cL_law 1126 = .ok (.iaload, 1) := by decide +kernel
theorem dL_law_1127 : decode cL_law 1127 = .ok (.aload_n 0, 1) := by decide +kernel
theorem dL_law_1128 : decode cL_law 1128 = .ok (.iload 4, 2) := by decide +kernel
theorem dL_law_1130 : decode cL_law 1130 = .ok (.iconst 3, 1) := by decide +kernel
theorem dL_law_1131 : decode cL_law 1131 = .ok (.iadd, 1) := by decide +kernel
theorem dL_law_1132 : decode cL_law 1132 = .ok (.iaload, 1) := by decide +kernel
theorem dL_law_1133 : decode cL_law 1133 = .ok (.aload_n 3, 1) := by decide +kernel
theorem dL_law_1134 : decode cL_law 1134 = .ok (.invokestatic 132, 3) := by decide +kernel
theorem dL_law_1137 : decode cL_law 1137 = .ok (.istore 5, 2) := by decide +kernel
theorem dL_law_1139 : decode cL_law 1139 = .ok (.aload_n 2, 1) := by decide +kernel
theorem dL_law_1140 : decode cL_law 1140 = .ok (.aload_n 0, 1) := by decide +kernel
theorem dL_law_1141 : decode cL_law 1141 = .ok (.iload 4, 2) := by decide +kernel
theorem dL_law_1143 : decode cL_law 1143 = .ok (.iconst 1, 1) := by decide +kernel
theorem dL_law_1144 : decode cL_law 1144 = .ok (.iadd, 1) := by decide +kernel
theorem dL_law_1145 : decode cL_law 1145 = .ok (.iaload, 1) := by decide +kernel
theorem dL_law_1146 : decode cL_law 1146 = .ok (.aload_n 0, 1) := by decide +kernel
theorem dL_law_1147 : decode cL_law 1147 = .ok (.iload 4, 2) := by decide +kernel
theorem dL_law_1149 : decode cL_law 1149 = .ok (.iconst 2, 1) := by decide +kernel
theorem dL_law_1150 : decode cL_law 1150 = .ok (.iadd, 1) := by decide +kernel
theorem dL_law_1151 : decode cL_law 1151 = .ok (.iaload, 1) := by decide +kernel
theorem dL_law_1152 : decode cL_law 1152 = .ok (.aload_n 0, 1) := by decide +kernel
theorem dL_law_1153 : decode cL_law 1153 = .ok (.iload 4, 2) := by decide +kernel
theorem dL_law_1155 : decode cL_law 1155 = .ok (.iconst 3, 1) := by decide +kernel
theorem dL_law_1156 : decode cL_law 1156 = .ok (.iadd, 1) := by decide +kernel
theorem dL_law_1157 : decode cL_law 1157 = .ok (.iaload, 1) := by decide +kernel
theorem dL_law_1158 : decode cL_law 1158 = .ok (.invokevirtual 135, 3) := by decide +kernel
theorem dL_law_1161 : decode cL_law 1161 = .ok (.istore 6, 2) := by decide +kernel
theorem dL_law_1163 : decode cL_law 1163 = .ok (.aload_n 2, 1) := by decide +kernel
theorem dL_law_1164 : decode cL_law 1164 = .ok (.invokevirtual 84, 3) := by decide +kernel
theorem dL_law_1167 : decode cL_law 1167 = .ok (.iload 5, 2) := by decide +kernel
theorem dL_law_1169 : decode cL_law 1169 = .ok (.if_icmp .eq 5, 3) := by decide +kernel
theorem dL_law_1172 : decode cL_law 1172 = .ok (.iconst 0, 1) := by decide +kernel
theorem dL_law_1173 : decode cL_law 1173 = .ok (.ireturn, 1) := by decide +kernel
theorem dL_law_1174 : decode cL_law 1174 = .ok (.iload 5, 2) := by decide +kernel
theorem dL_law_1176 : decode cL_law 1176 = .ok (.ifCond .ne 15, 3) := by decide +kernel
theorem dL_law_1179 : decode cL_law 1179 = .ok (.aload_n 3, 1) := by decide +kernel
theorem dL_law_1180 : decode cL_law 1180 = .ok (.iconst 0, 1) := by decide +kernel
theorem dL_law_1181 : decode cL_law 1181 = .ok (.laload, 1) := by decide +kernel
theorem dL_law_1182 : decode cL_law 1182 = .ok (.iload 6, 2) := by decide +kernel
theorem dL_law_1184 : decode cL_law 1184 = .ok (.i2l, 1) := by decide +kernel
theorem dL_law_1185 : decode cL_law 1185 = .ok (.lcmp, 1) := by decide +kernel
theorem dL_law_1186 : decode cL_law 1186 = .ok (.ifCond .eq 5, 3) := by decide +kernel
theorem dL_law_1189 : decode cL_law 1189 = .ok (.iconst 0, 1) := by decide +kernel
theorem dL_law_1190 : decode cL_law 1190 = .ok (.ireturn, 1) := by decide +kernel
theorem dL_law_1191 : decode cL_law 1191 = .ok (.goto 208, 3) := by decide +kernel
theorem dL_law_1194 : decode cL_law 1194 = .ok (.aload_n 1, 1) := by decide +kernel
theorem dL_law_1195 : decode cL_law 1195 = .ok (.aload_n 0, 1) := by decide +kernel
theorem dL_law_1196 : decode cL_law 1196 = .ok (.iload 4, 2) := by decide +kernel
theorem dL_law_1198 : decode cL_law 1198 = .ok (.iconst 1, 1) := by decide +kernel
theorem dL_law_1199 : decode cL_law 1199 = .ok (.iadd, 1) := by decide +kernel
theorem dL_law_1200 : decode cL_law 1200 = .ok (.iaload, 1) := by decide +kernel
theorem dL_law_1201 : decode cL_law 1201 = .ok (.aload_n 0, 1) := by decide +kernel
theorem dL_law_1202 : decode cL_law 1202 = .ok (.iload 4, 2) := by decide +kernel
theorem dL_law_1204 : decode cL_law 1204 = .ok (.iconst 2, 1) := by decide +kernel
theorem dL_law_1205 : decode cL_law 1205 = .ok (.iadd, 1) := by decide +kernel
theorem dL_law_1206 : decode cL_law 1206 = .ok (.iaload, 1) := by decide +kernel
theorem dL_law_1207 : decode cL_law 1207 = .ok (.aload_n 3, 1) := by decide +kernel
theorem dL_law_1208 : decode cL_law 1208 = .ok (.invokestatic 136, 3) := by decide +kernel
theorem dL_law_1211 : decode cL_law 1211 = .ok (.istore 5, 2) := by decide +kernel
theorem dL_law_1213 : decode cL_law 1213 = .ok (.aload_n 2, 1) := by decide +kernel
theorem dL_law_1214 : decode cL_law 1214 = .ok (.aload_n 0, 1) := by decide +kernel
theorem dL_law_1215 : decode cL_law 1215 = .ok (.iload 4, 2) := by decide +kernel
theorem dL_law_1217 : decode cL_law 1217 = .ok (.iconst 1, 1) := by decide +kernel
theorem dL_law_1218 : decode cL_law 1218 = .ok (.iadd, 1) := by decide +kernel
theorem dL_law_1219 : decode cL_law 1219 = .ok (.iaload, 1) := by decide +kernel
theorem dL_law_1220 : decode cL_law 1220 = .ok (.aload_n 0, 1) := by decide +kernel
theorem dL_law_1221 : decode cL_law 1221 = .ok (.iload 4, 2) := by decide +kernel
theorem dL_law_1223 : decode cL_law 1223 = .ok (.iconst 2, 1) := by decide +kernel
theorem dL_law_1224 : decode cL_law 1224 = .ok (.iadd, 1) := by decide +kernel
theorem dL_law_1225 : decode cL_law 1225 = .ok (.iaload, 1) := by decide +kernel
theorem dL_law_1226 : decode cL_law 1226 = .ok (.invokevirtual 138, 3) := by decide +kernel
theorem dL_law_1229 : decode cL_law 1229 = .ok (.istore 6, 2) := by decide +kernel
theorem dL_law_1231 : decode cL_law 1231 = .ok (.aload_n 2, 1) := by decide +kernel
theorem dL_law_1232 : decode cL_law 1232 = .ok (.invokevirtual 84, 3) := by decide +kernel
theorem dL_law_1235 : decode cL_law 1235 = .ok (.iload 5, 2) := by decide +kernel
theorem dL_law_1237 : decode cL_law 1237 = .ok (.if_icmp .eq 5, 3) := by decide +kernel
theorem dL_law_1240 : decode cL_law 1240 = .ok (.iconst 0, 1) := by decide +kernel
theorem dL_law_1241 : decode cL_law 1241 = .ok (.ireturn, 1) := by decide +kernel
theorem dL_law_1242 : decode cL_law 1242 = .ok (.iload 5, 2) := by decide +kernel
theorem dL_law_1244 : decode cL_law 1244 = .ok (.ifCond .ne 15, 3) := by decide +kernel
theorem dL_law_1247 : decode cL_law 1247 = .ok (.aload_n 3, 1) := by decide +kernel
theorem dL_law_1248 : decode cL_law 1248 = .ok (.iconst 0, 1) := by decide +kernel
theorem dL_law_1249 : decode cL_law 1249 = .ok (.laload, 1) := by decide +kernel
theorem dL_law_1250 : decode cL_law 1250 = .ok (.iload 6, 2) := by decide +kernel
theorem dL_law_1252 : decode cL_law 1252 = .ok (.i2l, 1) := by decide +kernel
theorem dL_law_1253 : decode cL_law 1253 = .ok (.lcmp, 1) := by decide +kernel
theorem dL_law_1254 : decode cL_law 1254 = .ok (.ifCond .eq 5, 3) := by decide +kernel
theorem dL_law_1257 : decode cL_law 1257 = .ok (.iconst 0, 1) := by decide +kernel
theorem dL_law_1258 : decode cL_law 1258 = .ok (.ireturn, 1) := by decide +kernel
theorem dL_law_1259 : decode cL_law 1259 = .ok (.goto 140, 3) := by decide +kernel
theorem dL_law_1262 : decode cL_law 1262 = .ok (.aload_n 1, 1) := by decide +kernel
theorem dL_law_1263 : decode cL_law 1263 = .ok (.aload_n 0, 1) := by decide +kernel
theorem dL_law_1264 : decode cL_law 1264 = .ok (.iload 4, 2) := by decide +kernel
theorem dL_law_1266 : decode cL_law 1266 = .ok (.iconst 1, 1) := by decide +kernel
theorem dL_law_1267 : decode cL_law 1267 = .ok (.iadd, 1) := by decide +kernel
theorem dL_law_1268 : decode cL_law 1268 = .ok (.iaload, 1) := by decide +kernel
theorem dL_law_1269 : decode cL_law 1269 = .ok (.aload_n 0, 1) := by decide +kernel
theorem dL_law_1270 : decode cL_law 1270 = .ok (.iload 4, 2) := by decide +kernel
theorem dL_law_1272 : decode cL_law 1272 = .ok (.iconst 2, 1) := by decide +kernel
theorem dL_law_1273 : decode cL_law 1273 = .ok (.iadd, 1) := by decide +kernel
theorem dL_law_1274 : decode cL_law 1274 = .ok (.iaload, 1) := by decide +kernel
theorem dL_law_1275 : decode cL_law 1275 = .ok (.aload_n 3, 1) := by decide +kernel
theorem dL_law_1276 : decode cL_law 1276 = .ok (.invokestatic 139, 3) := by decide +kernel
theorem dL_law_1279 : decode cL_law 1279 = .ok (.istore 5, 2) := by decide +kernel
theorem dL_law_1281 : decode cL_law 1281 = .ok (.aload_n 2, 1) := by decide +kernel
theorem dL_law_1282 : decode cL_law 1282 = .ok (.aload_n 0, 1) := by decide +kernel
theorem dL_law_1283 : decode cL_law 1283 = .ok (.iload 4, 2) := by decide +kernel
theorem dL_law_1285 : decode cL_law 1285 = .ok (.iconst 1, 1) := by decide +kernel
theorem dL_law_1286 : decode cL_law 1286 = .ok (.iadd, 1) := by decide +kernel
theorem dL_law_1287 : decode cL_law 1287 = .ok (.iaload, 1) := by decide +kernel
theorem dL_law_1288 : decode cL_law 1288 = .ok (.aload_n 0, 1) := by decide +kernel
theorem dL_law_1289 : decode cL_law 1289 = .ok (.iload 4, 2) := by decide +kernel
theorem dL_law_1291 : decode cL_law 1291 = .ok (.iconst 2, 1) := by decide +kernel
theorem dL_law_1292 : decode cL_law 1292 = .ok (.iadd, 1) := by decide +kernel
theorem dL_law_1293 : decode cL_law 1293 = .ok (.iaload, 1) := by decide +kernel
theorem dL_law_1294 : decode cL_law 1294 = .ok (.invokevirtual 141, 3) := by decide +kernel
theorem dL_law_1297 : decode cL_law 1297 = .ok (.istore 6, 2) := by decide +kernel
theorem dL_law_1299 : decode cL_law 1299 = .ok (.aload_n 2, 1) := by decide +kernel
theorem dL_law_1300 : decode cL_law 1300 = .ok (.invokevirtual 84, 3) := by decide +kernel
theorem dL_law_1303 : decode cL_law 1303 = .ok (.iload 5, 2) := by decide +kernel
theorem dL_law_1305 : decode cL_law 1305 = .ok (.if_icmp .eq 5, 3) := by decide +kernel
theorem dL_law_1308 : decode cL_law 1308 = .ok (.iconst 0, 1) := by decide +kernel
theorem dL_law_1309 : decode cL_law 1309 = .ok (.ireturn, 1) := by decide +kernel
theorem dL_law_1310 : decode cL_law 1310 = .ok (.iload 5, 2) := by decide +kernel
theorem dL_law_1312 : decode cL_law 1312 = .ok (.ifCond .ne 15, 3) := by decide +kernel
theorem dL_law_1315 : decode cL_law 1315 = .ok (.aload_n 3, 1) := by decide +kernel
theorem dL_law_1316 : decode cL_law 1316 = .ok (.iconst 0, 1) := by decide +kernel
theorem dL_law_1317 : decode cL_law 1317 = .ok (.laload, 1) := by decide +kernel
theorem dL_law_1318 : decode cL_law 1318 = .ok (.iload 6, 2) := by decide +kernel
theorem dL_law_1320 : decode cL_law 1320 = .ok (.i2l, 1) := by decide +kernel
theorem dL_law_1321 : decode cL_law 1321 = .ok (.lcmp, 1) := by decide +kernel
theorem dL_law_1322 : decode cL_law 1322 = .ok (.ifCond .eq 5, 3) := by decide +kernel
theorem dL_law_1325 : decode cL_law 1325 = .ok (.iconst 0, 1) := by decide +kernel
theorem dL_law_1326 : decode cL_law 1326 = .ok (.ireturn, 1) := by decide +kernel
theorem dL_law_1327 : decode cL_law 1327 = .ok (.goto 72, 3) := by decide +kernel
theorem dL_law_1330 : decode cL_law 1330 = .ok (.aload_n 1, 1) := by decide +kernel
theorem dL_law_1331 : decode cL_law 1331 = .ok (.aload_n 0, 1) := by decide +kernel
theorem dL_law_1332 : decode cL_law 1332 = .ok (.iload 4, 2) := by decide +kernel
theorem dL_law_1334 : decode cL_law 1334 = .ok (.iconst 1, 1) := by decide +kernel
theorem dL_law_1335 : decode cL_law 1335 = .ok (.iadd, 1) := by decide +kernel
theorem dL_law_1336 : decode cL_law 1336 = .ok (.iaload, 1) := by decide +kernel
theorem dL_law_1337 : decode cL_law 1337 = .ok (.aload_n 3, 1) := by decide +kernel
theorem dL_law_1338 : decode cL_law 1338 = .ok (.invokestatic 142, 3) := by decide +kernel
theorem dL_law_1341 : decode cL_law 1341 = .ok (.istore 5, 2) := by decide +kernel
theorem dL_law_1343 : decode cL_law 1343 = .ok (.aload_n 2, 1) := by decide +kernel
theorem dL_law_1344 : decode cL_law 1344 = .ok (.aload_n 0, 1) := by decide +kernel
theorem dL_law_1345 : decode cL_law 1345 = .ok (.iload 4, 2) := by decide +kernel
theorem dL_law_1347 : decode cL_law 1347 = .ok (.iconst 1, 1) := by decide +kernel
theorem dL_law_1348 : decode cL_law 1348 = .ok (.iadd, 1) := by decide +kernel
theorem dL_law_1349 : decode cL_law 1349 = .ok (.iaload, 1) := by decide +kernel
theorem dL_law_1350 : decode cL_law 1350 = .ok (.invokevirtual 144, 3) := by decide +kernel
theorem dL_law_1353 : decode cL_law 1353 = .ok (.istore 6, 2) := by decide +kernel
theorem dL_law_1355 : decode cL_law 1355 = .ok (.aload_n 2, 1) := by decide +kernel
theorem dL_law_1356 : decode cL_law 1356 = .ok (.invokevirtual 84, 3) := by decide +kernel
theorem dL_law_1359 : decode cL_law 1359 = .ok (.iload 5, 2) := by decide +kernel
theorem dL_law_1361 : decode cL_law 1361 = .ok (.if_icmp .eq 5, 3) := by decide +kernel
theorem dL_law_1364 : decode cL_law 1364 = .ok (.iconst 0, 1) := by decide +kernel
theorem dL_law_1365 : decode cL_law 1365 = .ok (.ireturn, 1) := by decide +kernel
theorem dL_law_1366 : decode cL_law 1366 = .ok (.iload 5, 2) := by decide +kernel
theorem dL_law_1368 : decode cL_law 1368 = .ok (.ifCond .ne 15, 3) := by decide +kernel
theorem dL_law_1371 : decode cL_law 1371 = .ok (.aload_n 3, 1) := by decide +kernel
theorem dL_law_1372 : decode cL_law 1372 = .ok (.iconst 0, 1) := by decide +kernel
theorem dL_law_1373 : decode cL_law 1373 = .ok (.laload, 1) := by decide +kernel
theorem dL_law_1374 : decode cL_law 1374 = .ok (.iload 6, 2) := by decide +kernel
theorem dL_law_1376 : decode cL_law 1376 = .ok (.i2l, 1) := by decide +kernel
theorem dL_law_1377 : decode cL_law 1377 = .ok (.lcmp, 1) := by decide +kernel
theorem dL_law_1378 : decode cL_law 1378 = .ok (.ifCond .eq 5, 3) := by decide +kernel
theorem dL_law_1381 : decode cL_law 1381 = .ok (.iconst 0, 1) := by decide +kernel
theorem dL_law_1382 : decode cL_law 1382 = .ok (.ireturn, 1) := by decide +kernel
theorem dL_law_1383 : decode cL_law 1383 = .ok (.goto 16, 3) := by decide +kernel
theorem dL_law_1386 : decode cL_law 1386 = .ok (.aload_n 1, 1) := by decide +kernel
theorem dL_law_1387 : decode cL_law 1387 = .ok (.invokevirtual 145, 3) := by decide +kernel
theorem dL_law_1390 : decode cL_law 1390 = .ok (.aload_n 2, 1) := by decide +kernel
theorem dL_law_1391 : decode cL_law 1391 = .ok (.invokevirtual 149, 3) := by decide +kernel
theorem dL_law_1394 : decode cL_law 1394 = .ok (.if_icmp .eq 5, 3) := by decide +kernel
theorem dL_law_1397 : decode cL_law 1397 = .ok (.iconst 0, 1) := by decide +kernel
theorem dL_law_1398 : decode cL_law 1398 = .ok (.ireturn, 1) := by decide +kernel
theorem dL_law_1399 : decode cL_law 1399 = .ok (.iinc 4 8, 3) := by decide +kernel
theorem dL_law_1402 : decode cL_law 1402 = .ok (.goto (-1379), 3) := by decide +kernel
theorem dL_law_1405 : decode cL_law 1405 = .ok (.iconst 1, 1) := by decide +kernel
theorem dL_law_1406 : decode cL_law 1406 = .ok (.ireturn, 1) := by decide +kernel
theorem dJ5_init_d00df_0 : decode cJ5_init_d00df 0 = .ok (.aload_n 0, 1) := by decide +kernel
theorem dJ5_init_d00df_1 : decode cJ5_init_d00df 1 = .ok (.invokespecial 3, 3) := by decide +kernel
theorem dJ5_init_d00df_4 : decode cJ5_init_d00df 4 = .ok (.getstatic 18, 3) := by decide +kernel
theorem dJ5_init_d00df_7 : decode cJ5_init_d00df 7 = .ok (.ifCond .eq 18, 3) := by decide +kernel
theorem dJ5_init_d00df_10 : decode cJ5_init_d00df 10 = .ok (.aload_n 0, 1) := by decide +kernel
theorem dJ5_init_d00df_11 : decode cJ5_init_d00df 11 = .ok (.iload_n 1, 1) := by decide +kernel
theorem dJ5_init_d00df_12 : decode cJ5_init_d00df 12 = .ok (.newarray .byte, 2) := by decide +kernel
theorem dJ5_init_d00df_14 : decode cJ5_init_d00df 14 = .ok (.putfield 15, 3) := by decide +kernel
theorem dJ5_init_d00df_17 : decode cJ5_init_d00df 17 = .ok (.aload_n 0, 1) := by decide +kernel
theorem dJ5_init_d00df_18 : decode cJ5_init_d00df 18 = .ok (.iconst 0, 1) := by decide +kernel
theorem dJ5_init_d00df_19 : decode cJ5_init_d00df 19 = .ok (.putfield 22, 3) := by decide +kernel
theorem dJ5_init_d00df_22 : decode cJ5_init_d00df 22 = .ok (.goto 16, 3) := by decide +kernel
theorem dJ5_init_d00df_25 : decode cJ5_init_d00df 25 = .ok (.aload_n 0, 1) := by decide +kernel
theorem dJ5_init_d00df_26 : decode cJ5_init_d00df 26 = .ok (.iload_n 1, 1) := by decide +kernel
theorem dJ5_init_d00df_27 : decode cJ5_init_d00df 27 = .ok (.invokestatic 26, 3) := by decide +kernel
theorem dJ5_init_d00df_30 : decode cJ5_init_d00df 30 = .ok (.putfield 15, 3) := by decide +kernel
theorem dJ5_init_d00df_33 : decode cJ5_init_d00df 33 = .ok (.aload_n 0, 1) := by decide +kernel
theorem dJ5_init_d00df_34 : decode cJ5_init_d00df 34 = .ok (.iconst 1, 1) := by decide +kernel
theorem dJ5_init_d00df_35 : decode cJ5_init_d00df 35 = .ok (.putfield 22, 3) := by decide +kernel
theorem dJ5_init_d00df_38 : decode cJ5_init_d00df 38 = .ok (.return_, 1) := by decide +kernel
theorem dJ5_length_8abf5_0 : decode cJ5_length_8abf5 0 = .ok (.aload_n 0, 1) := by decide +kernel
theorem dJ5_length_8abf5_1 : decode cJ5_length_8abf5 1 = .ok (.getfield 79, 3) := by decide +kernel
theorem dJ5_length_8abf5_4 : decode cJ5_length_8abf5 4 = .ok (.ireturn, 1) := by decide +kernel
theorem dJ5_ensureCapacityInternal_d00df_0 : decode cJ5_ensureCapacityInternal_d00df 0 = .ok (.aload_n 0, 1) := by decide +kernel
theorem dJ5_ensureCapacityInternal_d00df_1 : decode cJ5_ensureCapacityInternal_d00df 1 = .ok (.getfield 15, 3) := by decide +kernel
theorem dJ5_ensureCapacityInternal_d00df_4 : decode cJ5_ensureCapacityInternal_d00df 4 = .ok (.arraylength, 1) := by decide +kernel
theorem dJ5_ensureCapacityInternal_d00df_5 : decode cJ5_ensureCapacityInternal_d00df 5 = .ok (.aload_n 0, 1) := by decide +kernel
theorem dJ5_ensureCapacityInternal_d00df_6 : decode cJ5_ensureCapacityInternal_d00df 6 = .ok (.getfield 22, 3) := by decide +kernel
theorem dJ5_ensureCapacityInternal_d00df_9 : decode cJ5_ensureCapacityInternal_d00df 9 = .ok (.ishr, 1) := by decide +kernel
theorem dJ5_ensureCapacityInternal_d00df_10 : decode cJ5_ensureCapacityInternal_d00df 10 = .ok (.istore_n 2, 1) := by decide +kernel
theorem dJ5_ensureCapacityInternal_d00df_11 : decode cJ5_ensureCapacityInternal_d00df 11 = .ok (.iload_n 1, 1) := by decide +kernel
theorem dJ5_ensureCapacityInternal_d00df_12 : decode cJ5_ensureCapacityInternal_d00df 12 = .ok (.iload_n 2, 1) := by decide +kernel
theorem dJ5_ensureCapacityInternal_d00df_13 : decode cJ5_ensureCapacityInternal_d00df 13 = .ok (.isub, 1) := by decide +kernel
theorem dJ5_ensureCapacityInternal_d00df_14 : decode cJ5_ensureCapacityInternal_d00df 14 = .ok (.ifCond .le 24, 3) := by decide +kernel
theorem dJ5_ensureCapacityInternal_d00df_17 : decode cJ5_ensureCapacityInternal_d00df 17 = .ok (.aload_n 0, 1) := by decide +kernel
theorem dJ5_ensureCapacityInternal_d00df_18 : decode cJ5_ensureCapacityInternal_d00df 18 = .ok (.aload_n 0, 1) := by decide +kernel
theorem dJ5_ensureCapacityInternal_d00df_19 : decode cJ5_ensureCapacityInternal_d00df 19 = .ok (.getfield 15, 3) := by decide +kernel
theorem dJ5_ensureCapacityInternal_d00df_22 : decode cJ5_ensureCapacityInternal_d00df 22 = .ok (.aload_n 0, 1) := by decide +kernel
theorem dJ5_ensureCapacityInternal_d00df_23 : decode cJ5_ensureCapacityInternal_d00df 23 = .ok (.iload_n 1, 1) := by decide +kernel
theorem dJ5_ensureCapacityInternal_d00df_24 : decode cJ5_ensureCapacityInternal_d00df 24 = .ok (.invokevirtual 104, 3) := by decide +kernel
theorem dJ5_ensureCapacityInternal_d00df_27 : decode cJ5_ensureCapacityInternal_d00df 27 = .ok (.aload_n 0, 1) := by decide +kernel
theorem dJ5_ensureCapacityInternal_d00df_28 : decode cJ5_ensureCapacityInternal_d00df 28 = .ok (.getfield 22, 3) := by decide +kernel
theorem dJ5_ensureCapacityInternal_d00df_31 : decode cJ5_ensureCapacityInternal_d00df 31 = .ok (.ishl, 1) := by decide +kernel
theorem dJ5_ensureCapacityInternal_d00df_32 : decode cJ5_ensureCapacityInternal_d00df 32 = .ok (.invokestatic 108, 3) := by decide +kernel
theorem dJ5_ensureCapacityInternal_d00df_35 : decode cJ5_ensureCapacityInternal_d00df 35 = .ok (.putfield 15, 3) := by decide +kernel
theorem dJ5_ensureCapacityInternal_d00df_38 : decode cJ5_ensureCapacityInternal_d00df 38 = .ok (.return_, 1) := by decide +kernel
theorem dJ5_newCapacity_0f7a4_0 : decode cJ5_newCapacity_0f7a4 0 = .ok (.aload_n 0, 1) := by decide +kernel
theorem dJ5_newCapacity_0f7a4_1 : decode cJ5_newCapacity_0f7a4 1 = .ok (.getfield 15, 3) := by decide +kernel
theorem dJ5_newCapacity_0f7a4_4 : decode cJ5_newCapacity_0f7a4 4 = .ok (.arraylength, 1) := by decide +kernel
theorem dJ5_newCapacity_0f7a4_5 : decode cJ5_newCapacity_0f7a4 5 = .ok (.istore_n 2, 1) := by decide +kernel
theorem dJ5_newCapacity_0f7a4_6 : decode cJ5_newCapacity_0f7a4 6 = .ok (.iload_n 1, 1) := by decide +kernel
theorem dJ5_newCapacity_0f7a4_7 : decode cJ5_newCapacity_0f7a4 7 = .ok (.aload_n 0, 1) := by decide +kernel
theorem dJ5_newCapacity_0f7a4_8 : decode cJ5_newCapacity_0f7a4 8 = .ok (.getfield 22, 3) := by decide +kernel
theorem dJ5_newCapacity_0f7a4_11 : decode cJ5_newCapacity_0f7a4 11 = .ok (.ishl, 1) := by decide +kernel
theorem dJ5_newCapacity_0f7a4_12 : decode cJ5_newCapacity_0f7a4 12 = .ok (.istore_n 3, 1) := by decide +kernel
theorem dJ5_newCapacity_0f7a4_13 : decode cJ5_newCapacity_0f7a4 13 = .ok (.iload_n 3, 1) := by decide +kernel
theorem dJ5_newCapacity_0f7a4_14 : decode cJ5_newCapacity_0f7a4 14 = .ok (.iload_n 2, 1) := by decide +kernel
theorem dJ5_newCapacity_0f7a4_15 : decode cJ5_newCapacity_0f7a4 15 = .ok (.isub, 1) := by decide +kernel
theorem dJ5_newCapacity_0f7a4_16 : decode cJ5_newCapacity_0f7a4 16 = .ok (.istore 4, 2) := by decide +kernel
theorem dJ5_newCapacity_0f7a4_18 : decode cJ5_newCapacity_0f7a4 18 = .ok (.iload_n 2, 1) := by decide +kernel
theorem dJ5_newCapacity_0f7a4_19 : decode cJ5_newCapacity_0f7a4 19 = .ok (.iload 4, 2) := by decide +kernel
theorem dJ5_newCapacity_0f7a4_21 : decode cJ5_newCapacity_0f7a4 21 = .ok (.iload_n 2, 1) := by decide +kernel
theorem dJ5_newCapacity_0f7a4_22 : decode cJ5_newCapacity_0f7a4 22 = .ok (.iconst 2, 1) := by decide +kernel
theorem dJ5_newCapacity_0f7a4_23 : decode cJ5_newCapacity_0f7a4 23 = .ok (.aload_n 0, 1) := by decide +kernel
theorem dJ5_newCapacity_0f7a4_24 : decode cJ5_newCapacity_0f7a4 24 = .ok (.getfield 22, 3) := by decide +kernel
theorem dJ5_newCapacity_0f7a4_27 : decode cJ5_newCapacity_0f7a4 27 = .ok (.ishl, 1) := by decide +kernel
theorem dJ5_newCapacity_0f7a4_28 : decode cJ5_newCapacity_0f7a4 28 = .ok (.iadd, 1) := by decide +kernel
theorem dJ5_newCapacity_0f7a4_29 : decode cJ5_newCapacity_0f7a4 29 = .ok (.invokestatic 114, 3) := by decide +kernel
theorem dJ5_newCapacity_0f7a4_32 : decode cJ5_newCapacity_0f7a4 32 = .ok (.istore 5, 2) := by decide +kernel
theorem dJ5_newCapacity_0f7a4_34 : decode cJ5_newCapacity_0f7a4 34 = .ok (.iload 5, 2) := by decide +kernel
theorem dJ5_newCapacity_0f7a4_36 : decode cJ5_newCapacity_0f7a4 36 = .ok (.ldc 39, 2) := by decide +kernel
theorem dJ5_newCapacity_0f7a4_38 : decode cJ5_newCapacity_0f7a4 38 = .ok (.if_icmp .ne 13, 3) := by decide +kernel
theorem dJ5_newCapacity_0f7a4_41 : decode cJ5_newCapacity_0f7a4 41 = .ok (.new 120, 3) := by decide +kernel
theorem dJ5_newCapacity_0f7a4_44 : decode cJ5_newCapacity_0f7a4 44 = .ok (.dup, 1) := by decide +kernel
theorem dJ5_newCapacity_0f7a4_45 : decode cJ5_newCapacity_0f7a4 45 = .ok (.ldc 122, 2) := by decide +kernel
theorem dJ5_newCapacity_0f7a4_47 : decode cJ5_newCapacity_0f7a4 47 = .ok (.invokespecial 124, 3) := by decide +kernel
theorem dJ5_newCapacity_0f7a4_50 : decode cJ5_newCapacity_0f7a4 50 = .ok (.athrow, 1) := by decide +kernel
theorem dJ5_newCapacity_0f7a4_51 : decode cJ5_newCapacity_0f7a4 51 = .ok (.iload 5, 2) := by decide +kernel
theorem dJ5_newCapacity_0f7a4_53 : decode cJ5_newCapacity_0f7a4 53 = .ok (.aload_n 0, 1) := by decide +kernel
theorem dJ5_newCapacity_0f7a4_54 : decode cJ5_newCapacity_0f7a4 54 = .ok (.getfield 22, 3) := by decide +kernel
theorem dJ5_newCapacity_0f7a4_57 : decode cJ5_newCapacity_0f7a4 57 = .ok (.ishr, 1) := by decide +kernel
theorem dJ5_newCapacity_0f7a4_58 : decode cJ5_newCapacity_0f7a4 58 = .ok (.ireturn, 1) := by decide +kernel
theorem dJ5_inflate_da8c8_0 : decode cJ5_inflate_da8c8 0 = .ok (.aload_n 0, 1) := by decide +kernel
theorem dJ5_inflate_da8c8_1 : decode cJ5_inflate_da8c8 1 = .ok (.invokevirtual 83, 3) := by decide +kernel
theorem dJ5_inflate_da8c8_4 : decode cJ5_inflate_da8c8 4 = .ok (.ifCond .ne 4, 3) := by decide +kernel
theorem dJ5_inflate_da8c8_7 : decode cJ5_inflate_da8c8 7 = .ok (.return_, 1) := by decide +kernel
theorem dJ5_inflate_da8c8_8 : decode cJ5_inflate_da8c8 8 = .ok (.aload_n 0, 1) := by decide +kernel
theorem dJ5_inflate_da8c8_9 : decode cJ5_inflate_da8c8 9 = .ok (.getfield 15, 3) := by decide +kernel
theorem dJ5_inflate_da8c8_12 : decode cJ5_inflate_da8c8 12 = .ok (.arraylength, 1) := by decide +kernel
theorem dJ5_inflate_da8c8_13 : decode cJ5_inflate_da8c8 13 = .ok (.invokestatic 26, 3) := by decide +kernel
theorem dJ5_inflate_da8c8_16 : decode cJ5_inflate_da8c8 16 = .ok (.astore_n 1, 1) := by decide +kernel
theorem dJ5_inflate_da8c8_17 : decode cJ5_inflate_da8c8 17 = .ok (.aload_n 0, 1) := by decide +kernel
theorem dJ5_inflate_da8c8_18 : decode cJ5_inflate_da8c8 18 = .ok (.getfield 15, 3) := by decide +kernel
theorem dJ5_inflate_da8c8_21 : decode cJ5_inflate_da8c8 21 = .ok (.iconst 0, 1) := by decide +kernel
theorem dJ5_inflate_da8c8_22 : decode cJ5_inflate_da8c8 22 = .ok (.aload_n 1, 1) := by decide +kernel
theorem dJ5_inflate_da8c8_23 : decode cJ5_inflate_da8c8 23 = .ok (.iconst 0, 1) := by decide +kernel
theorem dJ5_inflate_da8c8_24 : decode cJ5_inflate_da8c8 24 = .ok (.aload_n 0, 1) := by decide +kernel
theorem dJ5_inflate_da8c8_25 : decode cJ5_inflate_da8c8 25 = .ok (.getfield 79, 3) := by decide +kernel
theorem dJ5_inflate_da8c8_28 : decode cJ5_inflate_da8c8 28 = .ok (.invokestatic 125, 3) := by decide +kernel
theorem dJ5_inflate_da8c8_31 : decode cJ5_inflate_da8c8 31 = .ok (.aload_n 0, 1) := by decide +kernel
theorem dJ5_inflate_da8c8_32 : decode cJ5_inflate_da8c8 32 = .ok (.aload_n 1, 1) := by decide +kernel
theorem dJ5_inflate_da8c8_33 : decode cJ5_inflate_da8c8 33 = .ok (.putfield 15, 3) := by decide +kernel
theorem dJ5_inflate_da8c8_36 : decode cJ5_inflate_da8c8 36 = .ok (.aload_n 0, 1) := by decide +kernel
theorem dJ5_inflate_da8c8_37 : decode cJ5_inflate_da8c8 37 = .ok (.iconst 1, 1) := by decide +kernel
theorem dJ5_inflate_da8c8_38 : decode cJ5_inflate_da8c8 38 = .ok (.putfield 22, 3) := by decide +kernel
theorem dJ5_inflate_da8c8_41 : decode cJ5_inflate_da8c8 41 = .ok (.return_, 1) := by decide +kernel
theorem dJ5_setLength_d00df_0 : decode cJ5_setLength_d00df 0 = .ok (.iload_n 1, 1) := by decide +kernel
theorem dJ5_setLength_d00df_1 : decode cJ5_setLength_d00df 1 = .ok (.ifCond .ge 12, 3) := by decide +kernel
theorem dJ5_setLength_d00df_4 : decode cJ5_setLength_d00df 4 = .ok (.new 129, 3) := by decide +kernel
theorem dJ5_setLength_d00df_7 : decode cJ5_setLength_d00df 7 = .ok (.dup, 1) := by decide +kernel
theorem dJ5_setLength_d00df_8 : decode cJ5_setLength_d00df 8 = .ok (.iload_n 1, 1) := by decide +kernel
theorem dJ5_setLength_d00df_9 : decode cJ5_setLength_d00df 9 = .ok (.invokespecial 131, 3) := by decide +kernel
theorem dJ5_setLength_d00df_12 : decode cJ5_setLength_d00df 12 = .ok (.athrow, 1) := by decide +kernel
theorem dJ5_setLength_d00df_13 : decode cJ5_setLength_d00df 13 = .ok (.aload_n 0, 1) := by decide +kernel
theorem dJ5_setLength_d00df_14 : decode cJ5_setLength_d00df 14 = .ok (.iload_n 1, 1) := by decide +kernel
theorem dJ5_setLength_d00df_15 : decode cJ5_setLength_d00df 15 = .ok (.invokevirtual 100, 3) := by decide +kernel
theorem dJ5_setLength_d00df_18 : decode cJ5_setLength_d00df 18 = .ok (.aload_n 0, 1) := by decide +kernel
theorem dJ5_setLength_d00df_19 : decode cJ5_setLength_d00df 19 = .ok (.getfield 79, 3) := by decide +kernel
theorem dJ5_setLength_d00df_22 : decode cJ5_setLength_d00df 22 = .ok (.iload_n 1, 1) := by decide +kernel
theorem dJ5_setLength_d00df_23 : decode cJ5_setLength_d00df 23 = .ok (.if_icmp .ge 40, 3) := by decide +kernel
theorem dJ5_setLength_d00df_26 : decode cJ5_setLength_d00df 26 = .ok (.aload_n 0, 1) := by decide +kernel
theorem dJ5_setLength_d00df_27 : decode cJ5_setLength_d00df 27 = .ok (.invokevirtual 83, 3) := by decide +kernel
theorem dJ5_setLength_d00df_30 : decode cJ5_setLength_d00df 30 = .ok (.ifCond .eq 18, 3) := by decide +kernel
theorem dJ5_setLength_d00df_33 : decode cJ5_setLength_d00df 33 = .ok (.aload_n 0, 1) := by decide +kernel
theorem dJ5_setLength_d00df_34 : decode cJ5_setLength_d00df 34 = .ok (.getfield 15, 3) := by decide +kernel
theorem dJ5_setLength_d00df_37 : decode cJ5_setLength_d00df 37 = .ok (.aload_n 0, 1) := by decide +kernel
theorem dJ5_setLength_d00df_38 : decode cJ5_setLength_d00df 38 = .ok (.getfield 79, 3) := by decide +kernel
theorem dJ5_setLength_d00df_41 : decode cJ5_setLength_d00df 41 = .ok (.iload_n 1, 1) := by decide +kernel
theorem dJ5_setLength_d00df_42 : decode cJ5_setLength_d00df 42 = .ok (.invokestatic 133, 3) := by decide +kernel
theorem dJ5_setLength_d00df_45 : decode cJ5_setLength_d00df 45 = .ok (.goto 31, 3) := by decide +kernel
theorem dJ5_setLength_d00df_48 : decode cJ5_setLength_d00df 48 = .ok (.aload_n 0, 1) := by decide +kernel
theorem dJ5_setLength_d00df_49 : decode cJ5_setLength_d00df 49 = .ok (.getfield 15, 3) := by decide +kernel
theorem dJ5_setLength_d00df_52 : decode cJ5_setLength_d00df 52 = .ok (.aload_n 0, 1) := by decide +kernel
theorem dJ5_setLength_d00df_53 : decode cJ5_setLength_d00df 53 = .ok (.getfield 79, 3) := by decide +kernel
theorem dJ5_setLength_d00df_56 : decode cJ5_setLength_d00df 56 = .ok (.iload_n 1, 1) := by decide +kernel
theorem dJ5_setLength_d00df_57 : decode cJ5_setLength_d00df 57 = .ok (.invokestatic 137, 3) := by decide +kernel
theorem dJ5_setLength_d00df_60 : decode cJ5_setLength_d00df 60 = .ok (.goto 16, 3) := by decide +kernel
theorem dJ5_setLength_d00df_63 : decode cJ5_setLength_d00df 63 = .ok (.aload_n 0, 1) := by decide +kernel
theorem dJ5_setLength_d00df_64 : decode cJ5_setLength_d00df 64 = .ok (.getfield 79, 3) := by decide +kernel
theorem dJ5_setLength_d00df_67 : decode cJ5_setLength_d00df 67 = .ok (.iload_n 1, 1) := by decide +kernel
theorem dJ5_setLength_d00df_68 : decode cJ5_setLength_d00df 68 = .ok (.if_icmp .le 8, 3) := by decide +kernel
theorem dJ5_setLength_d00df_71 : decode cJ5_setLength_d00df 71 = .ok (.aload_n 0, 1) := by decide +kernel
theorem dJ5_setLength_d00df_72 : decode cJ5_setLength_d00df 72 = .ok (.iconst 1, 1) := by decide +kernel
theorem dJ5_setLength_d00df_73 : decode cJ5_setLength_d00df 73 = .ok (.putfield 73, 3) := by decide +kernel
theorem dJ5_setLength_d00df_76 : decode cJ5_setLength_d00df 76 = .ok (.aload_n 0, 1) := by decide +kernel
theorem dJ5_setLength_d00df_77 : decode cJ5_setLength_d00df 77 = .ok (.iload_n 1, 1) := by decide +kernel
theorem dJ5_setLength_d00df_78 : decode cJ5_setLength_d00df 78 = .ok (.putfield 79, 3) := by decide +kernel
theorem dJ5_setLength_d00df_81 : decode cJ5_setLength_d00df 81 = .ok (.return_, 1) := by decide +kernel
theorem dJ5_append_cf1ce_0 : decode cJ5_append_cf1ce 0 = .ok (.aload_n 1, 1) := by decide +kernel
theorem dJ5_append_cf1ce_1 : decode cJ5_append_cf1ce 1 = .ok (.ifnonnull 8, 3) := by decide +kernel
theorem dJ5_append_cf1ce_4 : decode cJ5_append_cf1ce 4 = .ok (.aload_n 0, 1) := by decide +kernel
theorem dJ5_append_cf1ce_5 : decode cJ5_append_cf1ce 5 = .ok (.invokevirtual 204, 3) := by decide +kernel
theorem dJ5_append_cf1ce_8 : decode cJ5_append_cf1ce 8 = .ok (.areturn, 1) := by decide +kernel
theorem dJ5_append_cf1ce_9 : decode cJ5_append_cf1ce 9 = .ok (.aload_n 1, 1) := by decide +kernel
theorem dJ5_append_cf1ce_10 : decode cJ5_append_cf1ce 10 = .ok (.invokevirtual 32, 3) := by decide +kernel
theorem dJ5_append_cf1ce_13 : decode cJ5_append_cf1ce 13 = .ok (.istore_n 2, 1) := by decide +kernel
theorem dJ5_append_cf1ce_14 : decode cJ5_append_cf1ce 14 = .ok (.aload_n 0, 1) := by decide +kernel
theorem dJ5_append_cf1ce_15 : decode cJ5_append_cf1ce 15 = .ok (.aload_n 0, 1) := by decide +kernel
theorem dJ5_append_cf1ce_16 : decode cJ5_append_cf1ce 16 = .ok (.getfield 79, 3) := by decide +kernel
theorem dJ5_append_cf1ce_19 : decode cJ5_append_cf1ce 19 = .ok (.iload_n 2, 1) := by decide +kernel
theorem dJ5_append_cf1ce_20 : decode cJ5_append_cf1ce 20 = .ok (.iadd, 1) := by decide +kernel
theorem dJ5_append_cf1ce_21 : decode cJ5_append_cf1ce 21 = .ok (.invokevirtual 100, 3) := by decide +kernel
theorem dJ5_append_cf1ce_24 : decode cJ5_append_cf1ce 24 = .ok (.aload_n 0, 1) := by decide +kernel
theorem dJ5_append_cf1ce_25 : decode cJ5_append_cf1ce 25 = .ok (.aload_n 0, 1) := by decide +kernel
theorem dJ5_append_cf1ce_26 : decode cJ5_append_cf1ce 26 = .ok (.getfield 79, 3) := by decide +kernel
theorem dJ5_append_cf1ce_29 : decode cJ5_append_cf1ce 29 = .ok (.aload_n 1, 1) := by decide +kernel
theorem dJ5_append_cf1ce_30 : decode cJ5_append_cf1ce 30 = .ok (.invokevirtual 208, 3) := by decide +kernel
theorem dJ5_append_cf1ce_33 : decode cJ5_append_cf1ce 33 = .ok (.aload_n 0, 1) := by decide +kernel
theorem dJ5_append_cf1ce_34 : decode cJ5_append_cf1ce 34 = .ok (.dup, 1) := by decide +kernel
theorem dJ5_append_cf1ce_35 : decode cJ5_append_cf1ce 35 = .ok (.getfield 79, 3) := by decide +kernel
theorem dJ5_append_cf1ce_38 : decode cJ5_append_cf1ce 38 = .ok (.iload_n 2, 1) := by decide +kernel
theorem dJ5_append_cf1ce_39 : decode cJ5_append_cf1ce 39 = .ok (.iadd, 1) := by decide +kernel
theorem dJ5_append_cf1ce_40 : decode cJ5_append_cf1ce 40 = .ok (.putfield 79, 3) := by decide +kernel
theorem dJ5_append_cf1ce_43 : decode cJ5_append_cf1ce 43 = .ok (.aload_n 0, 1) := by decide +kernel
theorem dJ5_append_cf1ce_44 : decode cJ5_append_cf1ce 44 = .ok (.areturn, 1) := by decide +kernel
theorem dJ5_appendNull_278bc_0 : decode cJ5_appendNull_278bc 0 = .ok (.aload_n 0, 1) := by decide +kernel
theorem dJ5_appendNull_278bc_1 : decode cJ5_appendNull_278bc 1 = .ok (.aload_n 0, 1) := by decide +kernel
theorem dJ5_appendNull_278bc_2 : decode cJ5_appendNull_278bc 2 = .ok (.getfield 79, 3) := by decide +kernel
theorem dJ5_appendNull_278bc_5 : decode cJ5_appendNull_278bc 5 = .ok (.iconst 4, 1) := by decide +kernel
theorem dJ5_appendNull_278bc_6 : decode cJ5_appendNull_278bc 6 = .ok (.iadd, 1) := by decide +kernel
theorem dJ5_appendNull_278bc_7 : decode cJ5_appendNull_278bc 7 = .ok (.invokevirtual 100, 3) := by decide +kernel
theorem dJ5_appendNull_278bc_10 : decode cJ5_appendNull_278bc 10 = .ok (.aload_n 0, 1) := by decide +kernel
theorem dJ5_appendNull_278bc_11 : decode cJ5_appendNull_278bc 11 = .ok (.getfield 79, 3) := by decide +kernel
theorem dJ5_appendNull_278bc_14 : decode cJ5_appendNull_278bc 14 = .ok (.istore_n 1, 1) := by decide +kernel
theorem dJ5_appendNull_278bc_15 : decode cJ5_appendNull_278bc 15 = .ok (.aload_n 0, 1) := by decide +kernel
theorem dJ5_appendNull_278bc_16 : decode cJ5_appendNull_278bc 16 = .ok (.getfield 15, 3) := by decide +kernel
theorem dJ5_appendNull_278bc_19 : decode cJ5_appendNull_278bc 19 = .ok (.astore_n 2, 1) := by decide +kernel
theorem dJ5_appendNull_278bc_20 : decode cJ5_appendNull_278bc 20 = .ok (.aload_n 0, 1) := by decide +kernel
theorem dJ5_appendNull_278bc_21 : decode cJ5_appendNull_278bc 21 = .ok (.invokevirtual 83, 3) := by decide +kernel
theorem dJ5_appendNull_278bc_24 : decode cJ5_appendNull_278bc 24 = .ok (.ifCond .eq 38, 3) := by decide +kernel
theorem dJ5_appendNull_278bc_27 : decode cJ5_appendNull_278bc 27 = .ok (.aload_n 2, 1) := by decide +kernel
theorem dJ5_appendNull_278bc_28 : decode cJ5_appendNull_278bc 28 = .ok (.iload_n 1, 1) := by decide +kernel
theorem dJ5_appendNull_278bc_29 : decode cJ5_appendNull_278bc 29 = .ok (.iinc 1 1, 3) := by decide +kernel
theorem dJ5_appendNull_278bc_32 : decode cJ5_appendNull_278bc 32 = .ok (.bipush 110, 2) := by decide +kernel
theorem dJ5_appendNull_278bc_34 : decode cJ5_appendNull_278bc 34 = .ok (.bastore, 1) := by decide +kernel
theorem dJ5_appendNull_278bc_35 : decode cJ5_appendNull_278bc 35 = .ok (.aload_n 2, 1) := by decide +kernel
theorem dJ5_appendNull_278bc_36 : decode cJ5_appendNull_278bc 36 = .ok (.iload_n 1, 1) := by decide +kernel
theorem dJ5_appendNull_278bc_37 : decode cJ5_appendNull_278bc 37 = .ok (.iinc 1 1, 3) := by decide +kernel
theorem dJ5_appendNull_278bc_40 : decode cJ5_appendNull_278bc 40 = .ok (.bipush 117, 2) := by decide +kernel
theorem dJ5_appendNull_278bc_42 : decode cJ5_appendNull_278bc 42 = .ok (.bastore, 1) := by decide +kernel
theorem dJ5_appendNull_278bc_43 : decode cJ5_appendNull_278bc 43 = .ok (.aload_n 2, 1) := by decide +kernel
theorem dJ5_appendNull_278bc_44 : decode cJ5_appendNull_278bc 44 = .ok (.iload_n 1, 1) := by decide +kernel
theorem dJ5_appendNull_278bc_45 : decode cJ5_appendNull_278bc 45 = .ok (.iinc 1 1, 3) := by decide +kernel
theorem dJ5_appendNull_278bc_48 : decode cJ5_appendNull_278bc 48 = .ok (.bipush 108, 2) := by decide +kernel
theorem dJ5_appendNull_278bc_50 : decode cJ5_appendNull_278bc 50 = .ok (.bastore, 1) := by decide +kernel
theorem dJ5_appendNull_278bc_51 : decode cJ5_appendNull_278bc 51 = .ok (.aload_n 2, 1) := by decide +kernel
theorem dJ5_appendNull_278bc_52 : decode cJ5_appendNull_278bc 52 = .ok (.iload_n 1, 1) := by decide +kernel
theorem dJ5_appendNull_278bc_53 : decode cJ5_appendNull_278bc 53 = .ok (.iinc 1 1, 3) := by decide +kernel
theorem dJ5_appendNull_278bc_56 : decode cJ5_appendNull_278bc 56 = .ok (.bipush 108, 2) := by decide +kernel
theorem dJ5_appendNull_278bc_58 : decode cJ5_appendNull_278bc 58 = .ok (.bastore, 1) := by decide +kernel
theorem dJ5_appendNull_278bc_59 : decode cJ5_appendNull_278bc 59 = .ok (.goto 17, 3) := by decide +kernel
theorem dJ5_appendNull_278bc_62 : decode cJ5_appendNull_278bc 62 = .ok (.aload_n 2, 1) := by decide +kernel
theorem dJ5_appendNull_278bc_63 : decode cJ5_appendNull_278bc 63 = .ok (.iload_n 1, 1) := by decide +kernel
theorem dJ5_appendNull_278bc_64 : decode cJ5_appendNull_278bc 64 = .ok (.bipush 110, 2) := by decide +kernel
theorem dJ5_appendNull_278bc_66 : decode cJ5_appendNull_278bc 66 = .ok (.bipush 117, 2) := by decide +kernel
theorem dJ5_appendNull_278bc_68 : decode cJ5_appendNull_278bc 68 = .ok (.bipush 108, 2) := by decide +kernel
theorem dJ5_appendNull_278bc_70 : decode cJ5_appendNull_278bc 70 = .ok (.bipush 108, 2) := by decide +kernel
theorem dJ5_appendNull_278bc_72 : decode cJ5_appendNull_278bc 72 = .ok (.invokestatic 226, 3) := by decide +kernel
theorem dJ5_appendNull_278bc_75 : decode cJ5_appendNull_278bc 75 = .ok (.istore_n 1, 1) := by decide +kernel
theorem dJ5_appendNull_278bc_76 : decode cJ5_appendNull_278bc 76 = .ok (.aload_n 0, 1) := by decide +kernel
theorem dJ5_appendNull_278bc_77 : decode cJ5_appendNull_278bc 77 = .ok (.iload_n 1, 1) := by decide +kernel
theorem dJ5_appendNull_278bc_78 : decode cJ5_appendNull_278bc 78 = .ok (.putfield 79, 3) := by decide +kernel
theorem dJ5_appendNull_278bc_81 : decode cJ5_appendNull_278bc 81 = .ok (.aload_n 0, 1) := by decide +kernel
theorem dJ5_appendNull_278bc_82 : decode cJ5_appendNull_278bc 82 = .ok (.areturn, 1) := by decide +kernel
theorem dJ5_append_3fe6f_0 : decode cJ5_append_3fe6f 0 = .ok (.aload_n 0, 1) := by decide +kernel
theorem dJ5_append_3fe6f_1 : decode cJ5_append_3fe6f 1 = .ok (.aload_n 0, 1) := by decide +kernel
theorem dJ5_append_3fe6f_2 : decode cJ5_append_3fe6f 2 = .ok (.getfield 79, 3) := by decide +kernel
theorem dJ5_append_3fe6f_5 : decode cJ5_append_3fe6f 5 = .ok (.iconst 1, 1) := by decide +kernel
theorem dJ5_append_3fe6f_6 : decode cJ5_append_3fe6f 6 = .ok (.iadd, 1) := by decide +kernel
theorem dJ5_append_3fe6f_7 : decode cJ5_append_3fe6f 7 = .ok (.invokevirtual 100, 3) := by decide +kernel
theorem dJ5_append_3fe6f_10 : decode cJ5_append_3fe6f 10 = .ok (.aload_n 0, 1) := by decide +kernel
theorem dJ5_append_3fe6f_11 : decode cJ5_append_3fe6f 11 = .ok (.invokevirtual 83, 3) := by decide +kernel
theorem dJ5_append_3fe6f_14 : decode cJ5_append_3fe6f 14 = .ok (.ifCond .eq 31, 3) := by decide +kernel
theorem dJ5_append_3fe6f_17 : decode cJ5_append_3fe6f 17 = .ok (.iload_n 1, 1) := by decide +kernel
theorem dJ5_append_3fe6f_18 : decode cJ5_append_3fe6f 18 = .ok (.invokestatic 191, 3) := by decide +kernel
theorem dJ5_append_3fe6f_21 : decode cJ5_append_3fe6f 21 = .ok (.ifCond .eq 24, 3) := by decide +kernel
theorem dJ5_append_3fe6f_24 : decode cJ5_append_3fe6f 24 = .ok (.aload_n 0, 1) := by decide +kernel
theorem dJ5_append_3fe6f_25 : decode cJ5_append_3fe6f 25 = .ok (.getfield 15, 3) := by decide +kernel
theorem dJ5_append_3fe6f_28 : decode cJ5_append_3fe6f 28 = .ok (.aload_n 0, 1) := by decide +kernel
theorem dJ5_append_3fe6f_29 : decode cJ5_append_3fe6f 29 = .ok (.dup, 1) := by decide +kernel
theorem dJ5_append_3fe6f_30 : decode cJ5_append_3fe6f 30 = .ok (.getfield 79, 3) := by decide +kernel
theorem dJ5_append_3fe6f_33 : decode cJ5_append_3fe6f 33 = .ok (.dup_x1, 1) := by decide +kernel
theorem dJ5_append_3fe6f_34 : decode cJ5_append_3fe6f 34 = .ok (.iconst 1, 1) := by decide +kernel
theorem dJ5_append_3fe6f_35 : decode cJ5_append_3fe6f 35 = .ok (.iadd, 1) := by decide +kernel
theorem dJ5_append_3fe6f_36 : decode cJ5_append_3fe6f 36 = .ok (.putfield 79, 3) := by decide +kernel
theorem dJ5_append_3fe6f_39 : decode cJ5_append_3fe6f 39 = .ok (.iload_n 1, 1) := by decide +kernel
theorem dJ5_append_3fe6f_40 : decode cJ5_append_3fe6f 40 = .ok (.i2b, 1) := by decide +kernel
theorem dJ5_append_3fe6f_41 : decode cJ5_append_3fe6f 41 = .ok (.bastore, 1) := by decide +kernel
theorem dJ5_append_3fe6f_42 : decode cJ5_append_3fe6f 42 = .ok (.goto 33, 3) := by decide +kernel
theorem dJ5_append_3fe6f_45 : decode cJ5_append_3fe6f 45 = .ok (.aload_n 0, 1) := by decide +kernel
theorem dJ5_append_3fe6f_46 : decode cJ5_append_3fe6f 46 = .ok (.invokevirtual 83, 3) := by decide +kernel
theorem dJ5_append_3fe6f_49 : decode cJ5_append_3fe6f 49 = .ok (.ifCond .eq 7, 3) := by decide +kernel
theorem dJ5_append_3fe6f_52 : decode cJ5_append_3fe6f 52 = .ok (.aload_n 0, 1) := by decide +kernel
theorem dJ5_append_3fe6f_53 : decode cJ5_append_3fe6f 53 = .ok (.invokevirtual 195, 3) := by decide +kernel
theorem dJ5_append_3fe6f_56 : decode cJ5_append_3fe6f 56 = .ok (.aload_n 0, 1) := by decide +kernel
theorem dJ5_append_3fe6f_57 : decode cJ5_append_3fe6f 57 = .ok (.getfield 15, 3) := by decide +kernel
theorem dJ5_append_3fe6f_60 : decode cJ5_append_3fe6f 60 = .ok (.aload_n 0, 1) := by decide +kernel
theorem dJ5_append_3fe6f_61 : decode cJ5_append_3fe6f 61 = .ok (.dup, 1) := by decide +kernel
theorem dJ5_append_3fe6f_62 : decode cJ5_append_3fe6f 62 = .ok (.getfield 79, 3) := by decide +kernel
theorem dJ5_append_3fe6f_65 : decode cJ5_append_3fe6f 65 = .ok (.dup_x1, 1) := by decide +kernel
theorem dJ5_append_3fe6f_66 : decode cJ5_append_3fe6f 66 = .ok (.iconst 1, 1) := by decide +kernel
theorem dJ5_append_3fe6f_67 : decode cJ5_append_3fe6f 67 = .ok (.iadd, 1) := by decide +kernel
theorem dJ5_append_3fe6f_68 : decode cJ5_append_3fe6f 68 = .ok (.putfield 79, 3) := by decide +kernel
theorem dJ5_append_3fe6f_71 : decode cJ5_append_3fe6f 71 = .ok (.iload_n 1, 1) := by decide +kernel
theorem dJ5_append_3fe6f_72 : decode cJ5_append_3fe6f 72 = .ok (.invokestatic 197, 3) := by decide +kernel
theorem dJ5_append_3fe6f_75 : decode cJ5_append_3fe6f 75 = .ok (.aload_n 0, 1) := by decide +kernel
theorem dJ5_append_3fe6f_76 : decode cJ5_append_3fe6f 76 = .ok (.areturn, 1) := by decide +kernel
theorem dJ5_append_c97b9_0 : decode cJ5_append_c97b9 0 = .ok (.aload_n 0, 1) := by decide +kernel
theorem dJ5_append_c97b9_1 : decode cJ5_append_c97b9 1 = .ok (.getfield 79, 3) := by decide +kernel
theorem dJ5_append_c97b9_4 : decode cJ5_append_c97b9 4 = .ok (.istore_n 2, 1) := by decide +kernel
theorem dJ5_append_c97b9_5 : decode cJ5_append_c97b9 5 = .ok (.iload_n 2, 1) := by decide +kernel
theorem dJ5_append_c97b9_6 : decode cJ5_append_c97b9 6 = .ok (.iload_n 1, 1) := by decide +kernel
theorem dJ5_append_c97b9_7 : decode cJ5_append_c97b9 7 = .ok (.invokestatic 245, 3) := by decide +kernel
theorem dJ5_append_c97b9_10 : decode cJ5_append_c97b9 10 = .ok (.iadd, 1) := by decide +kernel
theorem dJ5_append_c97b9_11 : decode cJ5_append_c97b9 11 = .ok (.istore_n 3, 1) := by decide +kernel
theorem dJ5_append_c97b9_12 : decode cJ5_append_c97b9 12 = .ok (.aload_n 0, 1) := by decide +kernel
theorem dJ5_append_c97b9_13 : decode cJ5_append_c97b9 13 = .ok (.iload_n 3, 1) := by decide +kernel
theorem dJ5_append_c97b9_14 : decode cJ5_append_c97b9 14 = .ok (.invokevirtual 100, 3) := by decide +kernel
theorem dJ5_append_c97b9_17 : decode cJ5_append_c97b9 17 = .ok (.aload_n 0, 1) := by decide +kernel
theorem dJ5_append_c97b9_18 : decode cJ5_append_c97b9 18 = .ok (.invokevirtual 83, 3) := by decide +kernel
theorem dJ5_append_c97b9_21 : decode cJ5_append_c97b9 21 = .ok (.ifCond .eq 16, 3) := by decide +kernel
theorem dJ5_append_c97b9_24 : decode cJ5_append_c97b9 24 = .ok (.iload_n 1, 1) := by decide +kernel
theorem dJ5_append_c97b9_25 : decode cJ5_append_c97b9 25 = .ok (.iload_n 3, 1) := by decide +kernel
theorem dJ5_append_c97b9_26 : decode cJ5_append_c97b9 26 = .ok (.aload_n 0, 1) := by decide +kernel
theorem dJ5_append_c97b9_27 : decode cJ5_append_c97b9 27 = .ok (.getfield 15, 3) := by decide +kernel
theorem dJ5_append_c97b9_30 : decode cJ5_append_c97b9 30 = .ok (.invokestatic 248, 3) := by decide +kernel
theorem dJ5_append_c97b9_33 : decode cJ5_append_c97b9 33 = .ok (.pop, 1) := by decide +kernel
theorem dJ5_append_c97b9_34 : decode cJ5_append_c97b9 34 = .ok (.goto 14, 3) := by decide +kernel
theorem dJ5_append_c97b9_37 : decode cJ5_append_c97b9 37 = .ok (.iload_n 1, 1) := by decide +kernel
theorem dJ5_append_c97b9_38 : decode cJ5_append_c97b9 38 = .ok (.iload_n 2, 1) := by decide +kernel
theorem dJ5_append_c97b9_39 : decode cJ5_append_c97b9 39 = .ok (.iload_n 3, 1) := by decide +kernel
theorem dJ5_append_c97b9_40 : decode cJ5_append_c97b9 40 = .ok (.aload_n 0, 1) := by decide +kernel
theorem dJ5_append_c97b9_41 : decode cJ5_append_c97b9 41 = .ok (.getfield 15, 3) := by decide +kernel
theorem dJ5_append_c97b9_44 : decode cJ5_append_c97b9 44 = .ok (.invokestatic 251, 3) := by decide +kernel
theorem dJ5_append_c97b9_47 : decode cJ5_append_c97b9 47 = .ok (.pop, 1) := by decide +kernel
theorem dJ5_append_c97b9_48 : decode cJ5_append_c97b9 48 = .ok (.aload_n 0, 1) := by decide +kernel
theorem dJ5_append_c97b9_49 : decode cJ5_append_c97b9 49 = .ok (.iload_n 3, 1) := by decide +kernel
theorem dJ5_append_c97b9_50 : decode cJ5_append_c97b9 50 = .ok (.putfield 79, 3) := by decide +kernel
theorem dJ5_append_c97b9_53 : decode cJ5_append_c97b9 53 = .ok (.aload_n 0, 1) := by decide +kernel
theorem dJ5_append_c97b9_54 : decode cJ5_append_c97b9 54 = .ok (.areturn, 1) := by decide +kernel
theorem dJ5_getValue_6d5f1_0 : decode cJ5_getValue_6d5f1 0 = .ok (.aload_n 0, 1) := by decide +kernel
theorem dJ5_getValue_6d5f1_1 : decode cJ5_getValue_6d5f1 1 = .ok (.getfield 15, 3) := by decide +kernel
theorem dJ5_getValue_6d5f1_4 : decode cJ5_getValue_6d5f1 4 = .ok (.areturn, 1) := by decide +kernel
theorem dJ5_isLatin1_aae02_0 : decode cJ5_isLatin1_aae02 0 = .ok (.getstatic 18, 3) := by decide +kernel
theorem dJ5_isLatin1_aae02_3 : decode cJ5_isLatin1_aae02 3 = .ok (.ifCond .eq 14, 3) := by decide +kernel
theorem dJ5_isLatin1_aae02_6 : decode cJ5_isLatin1_aae02 6 = .ok (.aload_n 0, 1) := by decide +kernel
theorem dJ5_isLatin1_aae02_7 : decode cJ5_isLatin1_aae02 7 = .ok (.getfield 22, 3) := by decide +kernel
theorem dJ5_isLatin1_aae02_10 : decode cJ5_isLatin1_aae02 10 = .ok (.ifCond .ne 7, 3) := by decide +kernel
theorem dJ5_isLatin1_aae02_13 : decode cJ5_isLatin1_aae02 13 = .ok (.iconst 1, 1) := by decide +kernel
theorem dJ5_isLatin1_aae02_14 : decode cJ5_isLatin1_aae02 14 = .ok (.goto 4, 3) := by decide +kernel
theorem dJ5_isLatin1_aae02_17 : decode cJ5_isLatin1_aae02 17 = .ok (.iconst 0, 1) := by decide +kernel
theorem dJ5_isLatin1_aae02_18 : decode cJ5_isLatin1_aae02 18 = .ok (.ireturn, 1) := by decide +kernel
theorem dJ5_inflateIfNeededFor_a7421_0 : decode cJ5_inflateIfNeededFor_a7421 0 = .ok (.getstatic 18, 3) := by decide +kernel
theorem dJ5_inflateIfNeededFor_a7421_3 : decode cJ5_inflateIfNeededFor_a7421 3 = .ok (.ifCond .eq 18, 3) := by decide +kernel
theorem dJ5_inflateIfNeededFor_a7421_6 : decode cJ5_inflateIfNeededFor_a7421 6 = .ok (.aload_n 0, 1) := by decide +kernel
theorem dJ5_inflateIfNeededFor_a7421_7 : decode cJ5_inflateIfNeededFor_a7421 7 = .ok (.getfield 22, 3) := by decide +kernel
theorem dJ5_inflateIfNeededFor_a7421_10 : decode cJ5_inflateIfNeededFor_a7421 10 = .ok (.aload_n 1, 1) := by decide +kernel
theorem dJ5_inflateIfNeededFor_a7421_11 : decode cJ5_inflateIfNeededFor_a7421 11 = .ok (.invokevirtual 40, 3) := by decide +kernel
theorem dJ5_inflateIfNeededFor_a7421_14 : decode cJ5_inflateIfNeededFor_a7421 14 = .ok (.if_icmp .eq 7, 3) := by decide +kernel
theorem dJ5_inflateIfNeededFor_a7421_17 : decode cJ5_inflateIfNeededFor_a7421 17 = .ok (.aload_n 0, 1) := by decide +kernel
theorem dJ5_inflateIfNeededFor_a7421_18 : decode cJ5_inflateIfNeededFor_a7421 18 = .ok (.invokevirtual 195, 3) := by decide +kernel
theorem dJ5_inflateIfNeededFor_a7421_21 : decode cJ5_inflateIfNeededFor_a7421 21 = .ok (.return_, 1) := by decide +kernel
theorem dJ5_putStringAt_47b60_0 : decode cJ5_putStringAt_47b60 0 = .ok (.aload_n 0, 1) := by decide +kernel
theorem dJ5_putStringAt_47b60_1 : decode cJ5_putStringAt_47b60 1 = .ok (.aload_n 2, 1) := by decide +kernel
theorem dJ5_putStringAt_47b60_2 : decode cJ5_putStringAt_47b60 2 = .ok (.invokevirtual 397, 3) := by decide +kernel
theorem dJ5_putStringAt_47b60_5 : decode cJ5_putStringAt_47b60 5 = .ok (.aload_n 2, 1) := by decide +kernel
theorem dJ5_putStringAt_47b60_6 : decode cJ5_putStringAt_47b60 6 = .ok (.aload_n 0, 1) := by decide +kernel
theorem dJ5_putStringAt_47b60_7 : decode cJ5_putStringAt_47b60 7 = .ok (.getfield 15, 3) := by decide +kernel
theorem dJ5_putStringAt_47b60_10 : decode cJ5_putStringAt_47b60 10 = .ok (.iload_n 1, 1) := by decide +kernel
theorem dJ5_putStringAt_47b60_11 : decode cJ5_putStringAt_47b60 11 = .ok (.aload_n 0, 1) := by decide +kernel
theorem dJ5_putStringAt_47b60_12 : decode cJ5_putStringAt_47b60 12 = .ok (.getfield 22, 3) := by decide +kernel
theorem dJ5_putStringAt_47b60_15 : decode cJ5_putStringAt_47b60 15 = .ok (.invokevirtual 399, 3) := by decide +kernel
theorem dJ5_putStringAt_47b60_18 : decode cJ5_putStringAt_47b60 18 = .ok (.return_, 1) := by decide +kernel
theorem dJx00060_init_d00df_0 : decode cJx00060_init_d00df 0 = .ok (.aload_n 0, 1) := by decide +kernel
theorem dJx00060_init_d00df_1 : decode cJx00060_init_d00df 1 = .ok (.new 10, 3) := by decide +kernel
theorem dJx00060_init_d00df_4 : decode cJx00060_init_d00df 4 = .ok (.dup, 1) := by decide +kernel
theorem dJx00060_init_d00df_5 : decode cJx00060_init_d00df 5 = .ok (.invokespecial 12, 3) := by decide +kernel
theorem dJx00060_init_d00df_8 : decode cJx00060_init_d00df 8 = .ok (.ldc 13, 2) := by decide +kernel
theorem dJx00060_init_d00df_10 : decode cJx00060_init_d00df 10 = .ok (.invokevirtual 15, 3) := by decide +kernel
theorem dJx00060_init_d00df_13 : decode cJx00060_init_d00df 13 = .ok (.iload_n 1, 1) := by decide +kernel
theorem dJx00060_init_d00df_14 : decode cJx00060_init_d00df 14 = .ok (.invokevirtual 19, 3) := by decide +kernel
theorem dJx00060_init_d00df_17 : decode cJx00060_init_d00df 17 = .ok (.invokevirtual 22, 3) := by decide +kernel
theorem dJx00060_init_d00df_20 : decode cJx00060_init_d00df 20 = .ok (.invokespecial 7, 3) := by decide +kernel
theorem dJx00060_init_d00df_23 : decode cJx00060_init_d00df 23 = .ok (.return_, 1) := by decide +kernel
theorem dJ6_getChars_ba4f3_0 : decode cJ6_getChars_ba4f3 0 = .ok (.iload_n 1, 1) := by decide +kernel
theorem dJ6_getChars_ba4f3_1 : decode cJ6_getChars_ba4f3 1 = .ok (.istore 5, 2) := by decide +kernel
theorem dJ6_getChars_ba4f3_3 : decode cJ6_getChars_ba4f3 3 = .ok (.iload_n 0, 1) := by decide +kernel
theorem dJ6_getChars_ba4f3_4 : decode cJ6_getChars_ba4f3 4 = .ok (.ifCond .ge 7, 3) := by decide +kernel
theorem dJ6_getChars_ba4f3_7 : decode cJ6_getChars_ba4f3 7 = .ok (.iconst 1, 1) := by decide +kernel
theorem dJ6_getChars_ba4f3_8 : decode cJ6_getChars_ba4f3 8 = .ok (.goto 4, 3) := by decide +kernel
theorem dJ6_getChars_ba4f3_11 : decode cJ6_getChars_ba4f3 11 = .ok (.iconst 0, 1) := by decide +kernel
theorem dJ6_getChars_ba4f3_12 : decode cJ6_getChars_ba4f3 12 = .ok (.istore 6, 2) := by decide +kernel
theorem dJ6_getChars_ba4f3_14 : decode cJ6_getChars_ba4f3 14 = .ok (.iload 6, 2) := by decide +kernel
theorem dJ6_getChars_ba4f3_16 : decode cJ6_getChars_ba4f3 16 = .ok (.ifCond .ne 6, 3) := by decide +kernel
theorem dJ6_getChars_ba4f3_19 : decode cJ6_getChars_ba4f3 19 = .ok (.iload_n 0, 1) := by decide +kernel
theorem dJ6_getChars_ba4f3_20 : decode cJ6_getChars_ba4f3 20 = .ok (.ineg, 1) := by decide +kernel
theorem dJ6_getChars_ba4f3_21 : decode cJ6_getChars_ba4f3 21 = .ok (.istore_n 0, 1) := by decide +kernel
theorem dJ6_getChars_ba4f3_22 : decode cJ6_getChars_ba4f3 22 = .ok (.iload_n 0, 1) := by decide +kernel
theorem dJ6_getChars_ba4f3_23 : decode cJ6_getChars_ba4f3 23 = .ok (.bipush (-100), 2) := by decide +kernel
theorem dJ6_getChars_ba4f3_25 : decode cJ6_getChars_ba4f3 25 = .ok (.if_icmp .gt 47, 3) := by decide +kernel
theorem dJ6_getChars_ba4f3_28 : decode cJ6_getChars_ba4f3 28 = .ok (.iload_n 0, 1) := by decide +kernel
theorem dJ6_getChars_ba4f3_29 : decode cJ6_getChars_ba4f3 29 = .ok (.bipush 100, 2) := by decide +kernel
theorem dJ6_getChars_ba4f3_31 : decode cJ6_getChars_ba4f3 31 = .ok (.idiv, 1) := by decide +kernel
theorem dJ6_getChars_ba4f3_32 : decode cJ6_getChars_ba4f3 32 = .ok (.istore_n 3, 1) := by decide +kernel
theorem dJ6_getChars_ba4f3_33 : decode cJ6_getChars_ba4f3 33 = .ok (.iload_n 3, 1) := by decide +kernel
theorem dJ6_getChars_ba4f3_34 : decode cJ6_getChars_ba4f3 34 = .ok (.bipush 100, 2) := by decide +kernel
theorem dJ6_getChars_ba4f3_36 : decode cJ6_getChars_ba4f3 36 = .ok (.imul, 1) := by decide +kernel
theorem dJ6_getChars_ba4f3_37 : decode cJ6_getChars_ba4f3 37 = .ok (.iload_n 0, 1) := by decide +kernel
theorem dJ6_getChars_ba4f3_38 : decode cJ6_getChars_ba4f3 38 = .ok (.isub, 1) := by decide +kernel
theorem dJ6_getChars_ba4f3_39 : decode cJ6_getChars_ba4f3 39 = .ok (.istore 4, 2) := by decide +kernel
theorem dJ6_getChars_ba4f3_41 : decode cJ6_getChars_ba4f3 41 = .ok (.iload_n 3, 1) := by decide +kernel
theorem dJ6_getChars_ba4f3_42 : decode cJ6_getChars_ba4f3 42 = .ok (.istore_n 0, 1) := by decide +kernel
theorem dJ6_getChars_ba4f3_43 : decode cJ6_getChars_ba4f3 43 = .ok (.aload_n 2, 1) := by decide +kernel
theorem dJ6_getChars_ba4f3_44 : decode cJ6_getChars_ba4f3 44 = .ok (.iinc 5 (-1), 3) := by decide +kernel
theorem dJ6_getChars_ba4f3_47 : decode cJ6_getChars_ba4f3 47 = .ok (.iload 5, 2) := by decide +kernel
theorem dJ6_getChars_ba4f3_49 : decode cJ6_getChars_ba4f3 49 = .ok (.getstatic 83, 3) := by decide +kernel
theorem dJ6_getChars_ba4f3_52 : decode cJ6_getChars_ba4f3 52 = .ok (.iload 4, 2) := by decide +kernel
theorem dJ6_getChars_ba4f3_54 : decode cJ6_getChars_ba4f3 54 = .ok (.baload, 1) := by decide +kernel
theorem dJ6_getChars_ba4f3_55 : decode cJ6_getChars_ba4f3 55 = .ok (.bastore, 1) := by decide +kernel
theorem dJ6_getChars_ba4f3_56 : decode cJ6_getChars_ba4f3 56 = .ok (.aload_n 2, 1) := by decide +kernel
theorem dJ6_getChars_ba4f3_57 : decode cJ6_getChars_ba4f3 57 = .ok (.iinc 5 (-1), 3) := by decide +kernel
theorem dJ6_getChars_ba4f3_60 : decode cJ6_getChars_ba4f3 60 = .ok (.iload 5, 2) := by decide +kernel
theorem dJ6_getChars_ba4f3_62 : decode cJ6_getChars_ba4f3 62 = .ok (.getstatic 87, 3) := by decide +kernel
theorem dJ6_getChars_ba4f3_65 : decode cJ6_getChars_ba4f3 65 = .ok (.iload 4, 2) := by decide +kernel
theorem dJ6_getChars_ba4f3_67 : decode cJ6_getChars_ba4f3 67 = .ok (.baload, 1) := by decide +kernel
theorem dJ6_getChars_ba4f3_68 : decode cJ6_getChars_ba4f3 68 = .ok (.bastore, 1) := by decide +kernel
theorem dJ6_getChars_ba4f3_69 : decode cJ6_getChars_ba4f3 69 = .ok (.goto (-47), 3) := by decide +kernel
theorem dJ6_getChars_ba4f3_72 : decode cJ6_getChars_ba4f3 72 = .ok (.aload_n 2, 1) := by decide +kernel
theorem dJ6_getChars_ba4f3_73 : decode cJ6_getChars_ba4f3 73 = .ok (.iinc 5 (-1), 3) := by decide +kernel
theorem dJ6_getChars_ba4f3_76 : decode cJ6_getChars_ba4f3 76 = .ok (.iload 5, 2) := by decide +kernel
theorem dJ6_getChars_ba4f3_78 : decode cJ6_getChars_ba4f3 78 = .ok (.getstatic 83, 3) := by decide +kernel
theorem dJ6_getChars_ba4f3_81 : decode cJ6_getChars_ba4f3 81 = .ok (.iload_n 0, 1) := by decide +kernel
theorem dJ6_getChars_ba4f3_82 : decode cJ6_getChars_ba4f3 82 = .ok (.ineg, 1) := by decide +kernel
theorem dJ6_getChars_ba4f3_83 : decode cJ6_getChars_ba4f3 83 = .ok (.baload, 1) := by decide +kernel
theorem dJ6_getChars_ba4f3_84 : decode cJ6_getChars_ba4f3 84 = .ok (.bastore, 1) := by decide +kernel
theorem dJ6_getChars_ba4f3_85 : decode cJ6_getChars_ba4f3 85 = .ok (.iload_n 0, 1) := by decide +kernel
theorem dJ6_getChars_ba4f3_86 : decode cJ6_getChars_ba4f3 86 = .ok (.bipush (-9), 2) := by decide +kernel
theorem dJ6_getChars_ba4f3_88 : decode cJ6_getChars_ba4f3 88 = .ok (.if_icmp .ge 16, 3) := by decide +kernel
theorem dJ6_getChars_ba4f3_91 : decode cJ6_getChars_ba4f3 91 = .ok (.aload_n 2, 1) := by decide +kernel
theorem dJ6_getChars_ba4f3_92 : decode cJ6_getChars_ba4f3 92 = .ok (.iinc 5 (-1), 3) := by decide +kernel
theorem dJ6_getChars_ba4f3_95 : decode cJ6_getChars_ba4f3 95 = .ok (.iload 5, 2) := by decide +kernel
theorem dJ6_getChars_ba4f3_97 : decode cJ6_getChars_ba4f3 97 = .ok (.getstatic 87, 3) := by decide +kernel
theorem dJ6_getChars_ba4f3_100 : decode cJ6_getChars_ba4f3 100 = .ok (.iload_n 0, 1) := by decide +kernel
theorem dJ6_getChars_ba4f3_101 : decode cJ6_getChars_ba4f3 101 = .ok (.ineg, 1) := by decide +kernel
theorem dJ6_getChars_ba4f3_102 : decode cJ6_getChars_ba4f3 102 = .ok (.baload, 1) := by decide +kernel
theorem dJ6_getChars_ba4f3_103 : decode cJ6_getChars_ba4f3 103 = .ok (.bastore, 1) := by decide +kernel
theorem dJ6_getChars_ba4f3_104 : decode cJ6_getChars_ba4f3 104 = .ok (.iload 6, 2) := by decide +kernel
theorem dJ6_getChars_ba4f3_106 : decode cJ6_getChars_ba4f3 106 = .ok (.ifCond .eq 12, 3) := by decide +kernel
theorem dJ6_getChars_ba4f3_109 : decode cJ6_getChars_ba4f3 109 = .ok (.aload_n 2, 1) := by decide +kernel
theorem dJ6_getChars_ba4f3_110 : decode cJ6_getChars_ba4f3 110 = .ok (.iinc 5 (-1), 3) := by decide +kernel
theorem dJ6_getChars_ba4f3_113 : decode cJ6_getChars_ba4f3 113 = .ok (.iload 5, 2) := by decide +kernel
theorem dJ6_getChars_ba4f3_115 : decode cJ6_getChars_ba4f3 115 = .ok (.bipush 45, 2) := by decide +kernel
theorem dJ6_getChars_ba4f3_117 : decode cJ6_getChars_ba4f3 117 = .ok (.bastore, 1) := by decide +kernel
theorem dJ6_getChars_ba4f3_118 : decode cJ6_getChars_ba4f3 118 = .ok (.iload 5, 2) := by decide +kernel
theorem dJ6_getChars_ba4f3_120 : decode cJ6_getChars_ba4f3 120 = .ok (.ireturn, 1) := by decide +kernel
theorem dJ6_stringSize_0f7a4_0 : decode cJ6_stringSize_0f7a4 0 = .ok (.iconst 1, 1) := by decide +kernel
theorem dJ6_stringSize_0f7a4_1 : decode cJ6_stringSize_0f7a4 1 = .ok (.istore_n 1, 1) := by decide +kernel
theorem dJ6_stringSize_0f7a4_2 : decode cJ6_stringSize_0f7a4 2 = .ok (.iload_n 0, 1) := by decide +kernel
theorem dJ6_stringSize_0f7a4_3 : decode cJ6_stringSize_0f7a4 3 = .ok (.ifCond .lt 8, 3) := by decide +kernel
theorem dJ6_stringSize_0f7a4_6 : decode cJ6_stringSize_0f7a4 6 = .ok (.iconst 0, 1) := by decide +kernel
theorem dJ6_stringSize_0f7a4_7 : decode cJ6_stringSize_0f7a4 7 = .ok (.istore_n 1, 1) := by decide +kernel
theorem dJ6_stringSize_0f7a4_8 : decode cJ6_stringSize_0f7a4 8 = .ok (.iload_n 0, 1) := by decide +kernel
theorem dJ6_stringSize_0f7a4_9 : decode cJ6_stringSize_0f7a4 9 = .ok (.ineg, 1) := by decide +kernel
theorem dJ6_stringSize_0f7a4_10 : decode cJ6_stringSize_0f7a4 10 = .ok (.istore_n 0, 1) := by decide +kernel
theorem dJ6_stringSize_0f7a4_11 : decode cJ6_stringSize_0f7a4 11 = .ok (.bipush (-10), 2) := by decide +kernel
theorem dJ6_stringSize_0f7a4_13 : decode cJ6_stringSize_0f7a4 13 = .ok (.istore_n 2, 1) := by decide +kernel
theorem dJ6_stringSize_0f7a4_14 : decode cJ6_stringSize_0f7a4 14 = .ok (.iconst 1, 1) := by decide +kernel
theorem dJ6_stringSize_0f7a4_15 : decode cJ6_stringSize_0f7a4 15 = .ok (.istore_n 3, 1) := by decide +kernel
theorem dJ6_stringSize_0f7a4_16 : decode cJ6_stringSize_0f7a4 16 = .ok (.iload_n 3, 1) := by decide +kernel
theorem dJ6_stringSize_0f7a4_17 : decode cJ6_stringSize_0f7a4 17 = .ok (.bipush 10, 2) := by decide +kernel
theorem dJ6_stringSize_0f7a4_19 : decode cJ6_stringSize_0f7a4 19 = .ok (.if_icmp .ge 23, 3) := by decide +kernel
theorem dJ6_stringSize_0f7a4_22 : decode cJ6_stringSize_0f7a4 22 = .ok (.iload_n 0, 1) := by decide +kernel
theorem dJ6_stringSize_0f7a4_23 : decode cJ6_stringSize_0f7a4 23 = .ok (.iload_n 2, 1) := by decide +kernel
theorem dJ6_stringSize_0f7a4_24 : decode cJ6_stringSize_0f7a4 24 = .ok (.if_icmp .le 7, 3) := by decide +kernel
theorem dJ6_stringSize_0f7a4_27 : decode cJ6_stringSize_0f7a4 27 = .ok (.iload_n 3, 1) := by decide +kernel
theorem dJ6_stringSize_0f7a4_28 : decode cJ6_stringSize_0f7a4 28 = .ok (.iload_n 1, 1) := by decide +kernel
theorem dJ6_stringSize_0f7a4_29 : decode cJ6_stringSize_0f7a4 29 = .ok (.iadd, 1) := by decide +kernel
theorem dJ6_stringSize_0f7a4_30 : decode cJ6_stringSize_0f7a4 30 = .ok (.ireturn, 1) := by decide +kernel
theorem dJ6_stringSize_0f7a4_31 : decode cJ6_stringSize_0f7a4 31 = .ok (.bipush 10, 2) := by decide +kernel
theorem dJ6_stringSize_0f7a4_33 : decode cJ6_stringSize_0f7a4 33 = .ok (.iload_n 2, 1) := by decide +kernel
theorem dJ6_stringSize_0f7a4_34 : decode cJ6_stringSize_0f7a4 34 = .ok (.imul, 1) := by decide +kernel
theorem dJ6_stringSize_0f7a4_35 : decode cJ6_stringSize_0f7a4 35 = .ok (.istore_n 2, 1) := by decide +kernel
theorem dJ6_stringSize_0f7a4_36 : decode cJ6_stringSize_0f7a4 36 = .ok (.iinc 3 1, 3) := by decide +kernel
theorem dJ6_stringSize_0f7a4_39 : decode cJ6_stringSize_0f7a4 39 = .ok (.goto (-23), 3) := by decide +kernel
theorem dJ6_stringSize_0f7a4_42 : decode cJ6_stringSize_0f7a4 42 = .ok (.bipush 10, 2) := by decide +kernel
theorem dJ6_stringSize_0f7a4_44 : decode cJ6_stringSize_0f7a4 44 = .ok (.iload_n 1, 1) := by decide +kernel
theorem dJ6_stringSize_0f7a4_45 : decode cJ6_stringSize_0f7a4 45 = .ok (.iadd, 1) := by decide +kernel
theorem dJ6_stringSize_0f7a4_46 : decode cJ6_stringSize_0f7a4 46 = .ok (.ireturn, 1) := by decide +kernel
theorem dJ6_bitCount_0f7a4_0 : decode cJ6_bitCount_0f7a4 0 = .ok (.iload_n 0, 1) := by decide +kernel
theorem dJ6_bitCount_0f7a4_1 : decode cJ6_bitCount_0f7a4 1 = .ok (.iload_n 0, 1) := by decide +kernel
theorem dJ6_bitCount_0f7a4_2 : decode cJ6_bitCount_0f7a4 2 = .ok (.iconst 1, 1) := by decide +kernel
theorem dJ6_bitCount_0f7a4_3 : decode cJ6_bitCount_0f7a4 3 = .ok (.iushr, 1) := by decide +kernel
theorem dJ6_bitCount_0f7a4_4 : decode cJ6_bitCount_0f7a4 4 = .ok (.ldc_w 265, 3) := by decide +kernel
theorem dJ6_bitCount_0f7a4_7 : decode cJ6_bitCount_0f7a4 7 = .ok (.iand, 1) := by decide +kernel
theorem dJ6_bitCount_0f7a4_8 : decode cJ6_bitCount_0f7a4 8 = .ok (.isub, 1) := by decide +kernel
theorem dJ6_bitCount_0f7a4_9 : decode cJ6_bitCount_0f7a4 9 = .ok (.istore_n 0, 1) := by decide +kernel
theorem dJ6_bitCount_0f7a4_10 : decode cJ6_bitCount_0f7a4 10 = .ok (.iload_n 0, 1) := by decide +kernel
theorem dJ6_bitCount_0f7a4_11 : decode cJ6_bitCount_0f7a4 11 = .ok (.ldc_w 266, 3) := by decide +kernel
theorem dJ6_bitCount_0f7a4_14 : decode cJ6_bitCount_0f7a4 14 = .ok (.iand, 1) := by decide +kernel
theorem dJ6_bitCount_0f7a4_15 : decode cJ6_bitCount_0f7a4 15 = .ok (.iload_n 0, 1) := by decide +kernel
theorem dJ6_bitCount_0f7a4_16 : decode cJ6_bitCount_0f7a4 16 = .ok (.iconst 2, 1) := by decide +kernel
theorem dJ6_bitCount_0f7a4_17 : decode cJ6_bitCount_0f7a4 17 = .ok (.iushr, 1) := by decide +kernel
theorem dJ6_bitCount_0f7a4_18 : decode cJ6_bitCount_0f7a4 18 = .ok (.ldc_w 266, 3) := by decide +kernel
theorem dJ6_bitCount_0f7a4_21 : decode cJ6_bitCount_0f7a4 21 = .ok (.iand, 1) := by decide +kernel
theorem dJ6_bitCount_0f7a4_22 : decode cJ6_bitCount_0f7a4 22 = .ok (.iadd, 1) := by decide +kernel
theorem dJ6_bitCount_0f7a4_23 : decode cJ6_bitCount_0f7a4 23 = .ok (.istore_n 0, 1) := by decide +kernel
theorem dJ6_bitCount_0f7a4_24 : decode cJ6_bitCount_0f7a4 24 = .ok (.iload_n 0, 1) := by decide +kernel
theorem dJ6_bitCount_0f7a4_25 : decode cJ6_bitCount_0f7a4 25 = .ok (.iload_n 0, 1) := by decide +kernel
theorem dJ6_bitCount_0f7a4_26 : decode cJ6_bitCount_0f7a4 26 = .ok (.iconst 4, 1) := by decide +kernel
theorem dJ6_bitCount_0f7a4_27 : decode cJ6_bitCount_0f7a4 27 = .ok (.iushr, 1) := by decide +kernel
theorem dJ6_bitCount_0f7a4_28 : decode cJ6_bitCount_0f7a4 28 = .ok (.iadd, 1) := by decide +kernel
theorem dJ6_bitCount_0f7a4_29 : decode cJ6_bitCount_0f7a4 29 = .ok (.ldc_w 267, 3) := by decide +kernel
theorem dJ6_bitCount_0f7a4_32 : decode cJ6_bitCount_0f7a4 32 = .ok (.iand, 1) := by decide +kernel
theorem dJ6_bitCount_0f7a4_33 : decode cJ6_bitCount_0f7a4 33 = .ok (.istore_n 0, 1) := by decide +kernel
theorem dJ6_bitCount_0f7a4_34 : decode cJ6_bitCount_0f7a4 34 = .ok (.iload_n 0, 1) := by decide +kernel
theorem dJ6_bitCount_0f7a4_35 : decode cJ6_bitCount_0f7a4 35 = .ok (.iload_n 0, 1) := by decide +kernel
theorem dJ6_bitCount_0f7a4_36 : decode cJ6_bitCount_0f7a4 36 = .ok (.bipush 8, 2) := by decide +kernel
theorem dJ6_bitCount_0f7a4_38 : decode cJ6_bitCount_0f7a4 38 = .ok (.iushr, 1) := by decide +kernel
theorem dJ6_bitCount_0f7a4_39 : decode cJ6_bitCount_0f7a4 39 = .ok (.iadd, 1) := by decide +kernel
theorem dJ6_bitCount_0f7a4_40 : decode cJ6_bitCount_0f7a4 40 = .ok (.istore_n 0, 1) := by decide +kernel
theorem dJ6_bitCount_0f7a4_41 : decode cJ6_bitCount_0f7a4 41 = .ok (.iload_n 0, 1) := by decide +kernel
theorem dJ6_bitCount_0f7a4_42 : decode cJ6_bitCount_0f7a4 42 = .ok (.iload_n 0, 1) := by decide +kernel
theorem dJ6_bitCount_0f7a4_43 : decode cJ6_bitCount_0f7a4 43 = .ok (.bipush 16, 2) := by decide +kernel
theorem dJ6_bitCount_0f7a4_45 : decode cJ6_bitCount_0f7a4 45 = .ok (.iushr, 1) := by decide +kernel
theorem dJ6_bitCount_0f7a4_46 : decode cJ6_bitCount_0f7a4 46 = .ok (.iadd, 1) := by decide +kernel
theorem dJ6_bitCount_0f7a4_47 : decode cJ6_bitCount_0f7a4 47 = .ok (.istore_n 0, 1) := by decide +kernel
theorem dJ6_bitCount_0f7a4_48 : decode cJ6_bitCount_0f7a4 48 = .ok (.iload_n 0, 1) := by decide +kernel
theorem dJ6_bitCount_0f7a4_49 : decode cJ6_bitCount_0f7a4 49 = .ok (.bipush 63, 2) := by decide +kernel
theorem dJ6_bitCount_0f7a4_51 : decode cJ6_bitCount_0f7a4 51 = .ok (.iand, 1) := by decide +kernel
theorem dJ6_bitCount_0f7a4_52 : decode cJ6_bitCount_0f7a4 52 = .ok (.ireturn, 1) := by decide +kernel
theorem dJ9_abs_0f7a4_0 : decode cJ9_abs_0f7a4 0 = .ok (.iload_n 0, 1) := by decide +kernel
theorem dJ9_abs_0f7a4_1 : decode cJ9_abs_0f7a4 1 = .ok (.ifCond .ge 8, 3) := by decide +kernel
theorem dJ9_abs_0f7a4_4 : decode cJ9_abs_0f7a4 4 = .ok (.iload_n 0, 1) := by decide +kernel
theorem dJ9_abs_0f7a4_5 : decode cJ9_abs_0f7a4 5 = .ok (.ineg, 1) := by decide +kernel
theorem dJ9_abs_0f7a4_6 : decode cJ9_abs_0f7a4 6 = .ok (.goto 4, 3) := by decide +kernel
theorem dJ9_abs_0f7a4_9 : decode cJ9_abs_0f7a4 9 = .ok (.iload_n 0, 1) := by decide +kernel
theorem dJ9_abs_0f7a4_10 : decode cJ9_abs_0f7a4 10 = .ok (.ireturn, 1) := by decide +kernel
theorem dJ9_max_7cf53_0 : decode cJ9_max_7cf53 0 = .ok (.iload_n 0, 1) := by decide +kernel
theorem dJ9_max_7cf53_1 : decode cJ9_max_7cf53 1 = .ok (.iload_n 1, 1) := by decide +kernel
theorem dJ9_max_7cf53_2 : decode cJ9_max_7cf53 2 = .ok (.if_icmp .lt 7, 3) := by decide +kernel
theorem dJ9_max_7cf53_5 : decode cJ9_max_7cf53 5 = .ok (.iload_n 0, 1) := by decide +kernel
theorem dJ9_max_7cf53_6 : decode cJ9_max_7cf53 6 = .ok (.goto 4, 3) := by decide +kernel
theorem dJ9_max_7cf53_9 : decode cJ9_max_7cf53 9 = .ok (.iload_n 1, 1) := by decide +kernel
theorem dJ9_max_7cf53_10 : decode cJ9_max_7cf53 10 = .ok (.ireturn, 1) := by decide +kernel
theorem dJ9_min_7cf53_0 : decode cJ9_min_7cf53 0 = .ok (.iload_n 0, 1) := by decide +kernel
theorem dJ9_min_7cf53_1 : decode cJ9_min_7cf53 1 = .ok (.iload_n 1, 1) := by decide +kernel
theorem dJ9_min_7cf53_2 : decode cJ9_min_7cf53 2 = .ok (.if_icmp .gt 7, 3) := by decide +kernel
theorem dJ9_min_7cf53_5 : decode cJ9_min_7cf53 5 = .ok (.iload_n 0, 1) := by decide +kernel
theorem dJ9_min_7cf53_6 : decode cJ9_min_7cf53 6 = .ok (.goto 4, 3) := by decide +kernel
theorem dJ9_min_7cf53_9 : decode cJ9_min_7cf53 9 = .ok (.iload_n 1, 1) := by decide +kernel
theorem dJ9_min_7cf53_10 : decode cJ9_min_7cf53 10 = .ok (.ireturn, 1) := by decide +kernel
theorem dJ0_init_81219_0 : decode cJ0_init_81219 0 = .ok (.aload_n 0, 1) := by decide +kernel
theorem dJ0_init_81219_1 : decode cJ0_init_81219 1 = .ok (.aload_n 1, 1) := by decide +kernel
theorem dJ0_init_81219_2 : decode cJ0_init_81219 2 = .ok (.aconst_null, 1) := by decide +kernel
theorem dJ0_init_81219_3 : decode cJ0_init_81219 3 = .ok (.invokespecial 489, 3) := by decide +kernel
theorem dJ0_init_81219_6 : decode cJ0_init_81219 6 = .ok (.return_, 1) := by decide +kernel
theorem dJ0_length_8abf5_0 : decode cJ0_length_8abf5 0 = .ok (.aload_n 0, 1) := by decide +kernel
theorem dJ0_length_8abf5_1 : decode cJ0_length_8abf5 1 = .ok (.getfield 9, 3) := by decide +kernel
theorem dJ0_length_8abf5_4 : decode cJ0_length_8abf5 4 = .ok (.arraylength, 1) := by decide +kernel
theorem dJ0_length_8abf5_5 : decode cJ0_length_8abf5 5 = .ok (.aload_n 0, 1) := by decide +kernel
theorem dJ0_length_8abf5_6 : decode cJ0_length_8abf5 6 = .ok (.invokevirtual 335, 3) := by decide +kernel
theorem dJ0_length_8abf5_9 : decode cJ0_length_8abf5 9 = .ok (.ishr, 1) := by decide +kernel
theorem dJ0_length_8abf5_10 : decode cJ0_length_8abf5 10 = .ok (.ireturn, 1) := by decide +kernel
theorem dJ0_equals_9ea2d_0 : decode cJ0_equals_9ea2d 0 = .ok (.aload_n 0, 1) := by decide +kernel
theorem dJ0_equals_9ea2d_1 : decode cJ0_equals_9ea2d 1 = .ok (.aload_n 1, 1) := by decide +kernel
theorem dJ0_equals_9ea2d_2 : decode cJ0_equals_9ea2d 2 = .ok (.if_acmp .ne 5, 3) := by decide +kernel
theorem dJ0_equals_9ea2d_5 : decode cJ0_equals_9ea2d 5 = .ok (.iconst 1, 1) := by decide +kernel
theorem dJ0_equals_9ea2d_6 : decode cJ0_equals_9ea2d 6 = .ok (.ireturn, 1) := by decide +kernel
theorem dJ0_equals_9ea2d_7 : decode cJ0_equals_9ea2d 7 = .ok (.aload_n 1, 1) := by decide +kernel
theorem dJ0_equals_9ea2d_8 : decode cJ0_equals_9ea2d 8 = .ok (.instanceof 10, 3) := by decide +kernel
theorem dJ0_equals_9ea2d_11 : decode cJ0_equals_9ea2d 11 = .ok (.ifCond .eq 43, 3) := by decide +kernel
theorem dJ0_equals_9ea2d_14 : decode cJ0_equals_9ea2d 14 = .ok (.aload_n 1, 1) := by decide +kernel
theorem dJ0_equals_9ea2d_15 : decode cJ0_equals_9ea2d 15 = .ok (.checkcast 10, 3) := by decide +kernel
theorem dJ0_equals_9ea2d_18 : decode cJ0_equals_9ea2d 18 = .ok (.astore_n 2, 1) := by decide +kernel
theorem dJ0_equals_9ea2d_19 : decode cJ0_equals_9ea2d 19 = .ok (.getstatic 38, 3) := by decide +kernel
theorem dJ0_equals_9ea2d_22 : decode cJ0_equals_9ea2d 22 = .ok (.ifCond .eq 14, 3) := by decide +kernel
theorem dJ0_equals_9ea2d_25 : decode cJ0_equals_9ea2d 25 = .ok (.aload_n 0, 1) := by decide +kernel
theorem dJ0_equals_9ea2d_26 : decode cJ0_equals_9ea2d 26 = .ok (.getfield 15, 3) := by decide +kernel
theorem dJ0_equals_9ea2d_29 : decode cJ0_equals_9ea2d 29 = .ok (.aload_n 2, 1) := by decide +kernel
theorem dJ0_equals_9ea2d_30 : decode cJ0_equals_9ea2d 30 = .ok (.getfield 15, 3) := by decide +kernel
theorem dJ0_equals_9ea2d_33 : decode cJ0_equals_9ea2d 33 = .ok (.if_icmp .ne 21, 3) := by decide +kernel
theorem dJ0_equals_9ea2d_36 : decode cJ0_equals_9ea2d 36 = .ok (.aload_n 0, 1) := by decide +kernel
theorem dJ0_equals_9ea2d_37 : decode cJ0_equals_9ea2d 37 = .ok (.getfield 9, 3) := by decide +kernel
theorem dJ0_equals_9ea2d_40 : decode cJ0_equals_9ea2d 40 = .ok (.aload_n 2, 1) := by decide +kernel
theorem dJ0_equals_9ea2d_41 : decode cJ0_equals_9ea2d 41 = .ok (.getfield 9, 3) := by decide +kernel
theorem dJ0_equals_9ea2d_44 : decode cJ0_equals_9ea2d 44 = .ok (.invokestatic 541, 3) := by decide +kernel
theorem dJ0_equals_9ea2d_47 : decode cJ0_equals_9ea2d 47 = .ok (.ifCond .eq 7, 3) := by decide +kernel
theorem dJ0_equals_9ea2d_50 : decode cJ0_equals_9ea2d 50 = .ok (.iconst 1, 1) := by decide +kernel
theorem dJ0_equals_9ea2d_51 : decode cJ0_equals_9ea2d 51 = .ok (.goto 4, 3) := by decide +kernel
theorem dJ0_equals_9ea2d_54 : decode cJ0_equals_9ea2d 54 = .ok (.iconst 0, 1) := by decide +kernel
theorem dJ0_equals_9ea2d_55 : decode cJ0_equals_9ea2d 55 = .ok (.ireturn, 1) := by decide +kernel
theorem dJ0_getBytes_840e7_0 : decode cJ0_getBytes_840e7 0 = .ok (.aload_n 0, 1) := by decide +kernel
theorem dJ0_getBytes_840e7_1 : decode cJ0_getBytes_840e7 1 = .ok (.invokevirtual 335, 3) := by decide +kernel
theorem dJ0_getBytes_840e7_4 : decode cJ0_getBytes_840e7 4 = .ok (.iload_n 3, 1) := by decide +kernel
theorem dJ0_getBytes_840e7_5 : decode cJ0_getBytes_840e7 5 = .ok (.if_icmp .ne 23, 3) := by decide +kernel
theorem dJ0_getBytes_840e7_8 : decode cJ0_getBytes_840e7 8 = .ok (.aload_n 0, 1) := by decide +kernel
theorem dJ0_getBytes_840e7_9 : decode cJ0_getBytes_840e7 9 = .ok (.getfield 9, 3) := by decide +kernel
theorem dJ0_getBytes_840e7_12 : decode cJ0_getBytes_840e7 12 = .ok (.iconst 0, 1) := by decide +kernel
theorem dJ0_getBytes_840e7_13 : decode cJ0_getBytes_840e7 13 = .ok (.aload_n 1, 1) := by decide +kernel
theorem dJ0_getBytes_840e7_14 : decode cJ0_getBytes_840e7 14 = .ok (.iload_n 2, 1) := by decide +kernel
theorem dJ0_getBytes_840e7_15 : decode cJ0_getBytes_840e7 15 = .ok (.iload_n 3, 1) := by decide +kernel
theorem dJ0_getBytes_840e7_16 : decode cJ0_getBytes_840e7 16 = .ok (.ishl, 1) := by decide +kernel
theorem dJ0_getBytes_840e7_17 : decode cJ0_getBytes_840e7 17 = .ok (.aload_n 0, 1) := by decide +kernel
theorem dJ0_getBytes_840e7_18 : decode cJ0_getBytes_840e7 18 = .ok (.getfield 9, 3) := by decide +kernel
theorem dJ0_getBytes_840e7_21 : decode cJ0_getBytes_840e7 21 = .ok (.arraylength, 1) := by decide +kernel
theorem dJ0_getBytes_840e7_22 : decode cJ0_getBytes_840e7 22 = .ok (.invokestatic 212, 3) := by decide +kernel
theorem dJ0_getBytes_840e7_25 : decode cJ0_getBytes_840e7 25 = .ok (.goto 18, 3) := by decide +kernel
theorem dJ0_getBytes_840e7_28 : decode cJ0_getBytes_840e7 28 = .ok (.aload_n 0, 1) := by decide +kernel
theorem dJ0_getBytes_840e7_29 : decode cJ0_getBytes_840e7 29 = .ok (.getfield 9, 3) := by decide +kernel
theorem dJ0_getBytes_840e7_32 : decode cJ0_getBytes_840e7 32 = .ok (.iconst 0, 1) := by decide +kernel
theorem dJ0_getBytes_840e7_33 : decode cJ0_getBytes_840e7 33 = .ok (.aload_n 1, 1) := by decide +kernel
theorem dJ0_getBytes_840e7_34 : decode cJ0_getBytes_840e7 34 = .ok (.iload_n 2, 1) := by decide +kernel
theorem dJ0_getBytes_840e7_35 : decode cJ0_getBytes_840e7 35 = .ok (.aload_n 0, 1) := by decide +kernel
theorem dJ0_getBytes_840e7_36 : decode cJ0_getBytes_840e7 36 = .ok (.getfield 9, 3) := by decide +kernel
theorem dJ0_getBytes_840e7_39 : decode cJ0_getBytes_840e7 39 = .ok (.arraylength, 1) := by decide +kernel
theorem dJ0_getBytes_840e7_40 : decode cJ0_getBytes_840e7 40 = .ok (.invokestatic 106, 3) := by decide +kernel
theorem dJ0_getBytes_840e7_43 : decode cJ0_getBytes_840e7 43 = .ok (.return_, 1) := by decide +kernel
theorem dJ0_init_db425_0 : decode cJ0_init_db425 0 = .ok (.aload_n 0, 1) := by decide +kernel
theorem dJ0_init_db425_1 : decode cJ0_init_db425 1 = .ok (.invokespecial 1, 3) := by decide +kernel
theorem dJ0_init_db425_4 : decode cJ0_init_db425 4 = .ok (.aload_n 1, 1) := by decide +kernel
theorem dJ0_init_db425_5 : decode cJ0_init_db425 5 = .ok (.invokevirtual 552, 3) := by decide +kernel
theorem dJ0_init_db425_8 : decode cJ0_init_db425 8 = .ok (.astore_n 3, 1) := by decide +kernel
theorem dJ0_init_db425_9 : decode cJ0_init_db425 9 = .ok (.aload_n 1, 1) := by decide +kernel
theorem dJ0_init_db425_10 : decode cJ0_init_db425 10 = .ok (.invokevirtual 549, 3) := by decide +kernel
theorem dJ0_init_db425_13 : decode cJ0_init_db425 13 = .ok (.istore 4, 2) := by decide +kernel
theorem dJ0_init_db425_15 : decode cJ0_init_db425 15 = .ok (.aload_n 1, 1) := by decide +kernel
theorem dJ0_init_db425_16 : decode cJ0_init_db425 16 = .ok (.invokevirtual 1047, 3) := by decide +kernel
theorem dJ0_init_db425_19 : decode cJ0_init_db425 19 = .ok (.ifCond .eq 22, 3) := by decide +kernel
theorem dJ0_init_db425_22 : decode cJ0_init_db425 22 = .ok (.aload_n 0, 1) := by decide +kernel
theorem dJ0_init_db425_23 : decode cJ0_init_db425 23 = .ok (.iconst 0, 1) := by decide +kernel
theorem dJ0_init_db425_24 : decode cJ0_init_db425 24 = .ok (.putfield 15, 3) := by decide +kernel
theorem dJ0_init_db425_27 : decode cJ0_init_db425 27 = .ok (.aload_n 0, 1) := by decide +kernel
theorem dJ0_init_db425_28 : decode cJ0_init_db425 28 = .ok (.aload_n 3, 1) := by decide +kernel
theorem dJ0_init_db425_29 : decode cJ0_init_db425 29 = .ok (.iconst 0, 1) := by decide +kernel
theorem dJ0_init_db425_30 : decode cJ0_init_db425 30 = .ok (.iload 4, 2) := by decide +kernel
theorem dJ0_init_db425_32 : decode cJ0_init_db425 32 = .ok (.invokestatic 54, 3) := by decide +kernel
theorem dJ0_init_db425_35 : decode cJ0_init_db425 35 = .ok (.putfield 9, 3) := by decide +kernel
theorem dJ0_init_db425_38 : decode cJ0_init_db425 38 = .ok (.goto 59, 3) := by decide +kernel
theorem dJ0_init_db425_41 : decode cJ0_init_db425 41 = .ok (.getstatic 38, 3) := by decide +kernel
theorem dJ0_init_db425_44 : decode cJ0_init_db425 44 = .ok (.ifCond .eq 35, 3) := by decide +kernel
theorem dJ0_init_db425_47 : decode cJ0_init_db425 47 = .ok (.aload_n 1, 1) := by decide +kernel
theorem dJ0_init_db425_48 : decode cJ0_init_db425 48 = .ok (.getfield 1048, 3) := by decide +kernel
theorem dJ0_init_db425_51 : decode cJ0_init_db425 51 = .ok (.ifCond .eq 28, 3) := by decide +kernel
theorem dJ0_init_db425_54 : decode cJ0_init_db425 54 = .ok (.aload_n 0, 1) := by decide +kernel
theorem dJ0_init_db425_55 : decode cJ0_init_db425 55 = .ok (.aload_n 3, 1) := by decide +kernel
theorem dJ0_init_db425_56 : decode cJ0_init_db425 56 = .ok (.iconst 0, 1) := by decide +kernel
theorem dJ0_init_db425_57 : decode cJ0_init_db425 57 = .ok (.iload 4, 2) := by decide +kernel
theorem dJ0_init_db425_59 : decode cJ0_init_db425 59 = .ok (.invokestatic 1051, 3) := by decide +kernel
theorem dJ0_init_db425_62 : decode cJ0_init_db425 62 = .ok (.putfield 9, 3) := by decide +kernel
theorem dJ0_init_db425_65 : decode cJ0_init_db425 65 = .ok (.aload_n 0, 1) := by decide +kernel
theorem dJ0_init_db425_66 : decode cJ0_init_db425 66 = .ok (.aload_n 0, 1) := by decide +kernel
theorem dJ0_init_db425_67 : decode cJ0_init_db425 67 = .ok (.getfield 9, 3) := by decide +kernel
theorem dJ0_init_db425_70 : decode cJ0_init_db425 70 = .ok (.iload 4, 2) := by decide +kernel
theorem dJ0_init_db425_72 : decode cJ0_init_db425 72 = .ok (.invokestatic 47, 3) := by decide +kernel
theorem dJ0_init_db425_75 : decode cJ0_init_db425 75 = .ok (.putfield 15, 3) := by decide +kernel
theorem dJ0_init_db425_78 : decode cJ0_init_db425 78 = .ok (.return_, 1) := by decide +kernel
theorem dJ0_init_db425_79 : decode cJ0_init_db425 79 = .ok (.aload_n 0, 1) := by decide +kernel
theorem dJ0_init_db425_80 : decode cJ0_init_db425 80 = .ok (.iconst 1, 1) := by decide +kernel
theorem dJ0_init_db425_81 : decode cJ0_init_db425 81 = .ok (.putfield 15, 3) := by decide +kernel
theorem dJ0_init_db425_84 : decode cJ0_init_db425 84 = .ok (.aload_n 0, 1) := by decide +kernel
theorem dJ0_init_db425_85 : decode cJ0_init_db425 85 = .ok (.aload_n 3, 1) := by decide +kernel
theorem dJ0_init_db425_86 : decode cJ0_init_db425 86 = .ok (.iconst 0, 1) := by decide +kernel
theorem dJ0_init_db425_87 : decode cJ0_init_db425 87 = .ok (.iload 4, 2) := by decide +kernel
theorem dJ0_init_db425_89 : decode cJ0_init_db425 89 = .ok (.iconst 1, 1) := by decide +kernel
theorem dJ0_init_db425_90 : decode cJ0_init_db425 90 = .ok (.ishl, 1) := by decide +kernel
theorem dJ0_init_db425_91 : decode cJ0_init_db425 91 = .ok (.invokestatic 54, 3) := by decide +kernel
theorem dJ0_init_db425_94 : decode cJ0_init_db425 94 = .ok (.putfield 9, 3) := by decide +kernel
theorem dJ0_init_db425_97 : decode cJ0_init_db425 97 = .ok (.return_, 1) := by decide +kernel
theorem dJ0_coder_7d493_0 : decode cJ0_coder_7d493 0 = .ok (.getstatic 38, 3) := by decide +kernel
theorem dJ0_coder_7d493_3 : decode cJ0_coder_7d493 3 = .ok (.ifCond .eq 10, 3) := by decide +kernel
theorem dJ0_coder_7d493_6 : decode cJ0_coder_7d493 6 = .ok (.aload_n 0, 1) := by decide +kernel
theorem dJ0_coder_7d493_7 : decode cJ0_coder_7d493 7 = .ok (.getfield 15, 3) := by decide +kernel
theorem dJ0_coder_7d493_10 : decode cJ0_coder_7d493 10 = .ok (.goto 4, 3) := by decide +kernel
theorem dJ0_coder_7d493_13 : decode cJ0_coder_7d493 13 = .ok (.iconst 1, 1) := by decide +kernel
theorem dJ0_coder_7d493_14 : decode cJ0_coder_7d493 14 = .ok (.ireturn, 1) := by decide +kernel
theorem dJ0_checkIndex_df160_0 : decode cJ0_checkIndex_df160 0 = .ok (.iload_n 0, 1) := by decide +kernel
theorem dJ0_checkIndex_df160_1 : decode cJ0_checkIndex_df160 1 = .ok (.iload_n 1, 1) := by decide +kernel
theorem dJ0_checkIndex_df160_2 : decode cJ0_checkIndex_df160 2 = .ok (.getstatic 1053, 3) := by decide +kernel
theorem dJ0_checkIndex_df160_5 : decode cJ0_checkIndex_df160 5 = .ok (.invokestatic 1059, 3) := by decide +kernel
theorem dJ0_checkIndex_df160_8 : decode cJ0_checkIndex_df160 8 = .ok (.pop, 1) := by decide +kernel
theorem dJ0_checkIndex_df160_9 : decode cJ0_checkIndex_df160 9 = .ok (.return_, 1) := by decide +kernel
theorem dJ0_checkBoundsOffCount_cabcc_0 : decode cJ0_checkBoundsOffCount_cabcc 0 = .ok (.iload_n 0, 1) := by decide +kernel
theorem dJ0_checkBoundsOffCount_cabcc_1 : decode cJ0_checkBoundsOffCount_cabcc 1 = .ok (.iload_n 1, 1) := by decide +kernel
theorem dJ0_checkBoundsOffCount_cabcc_2 : decode cJ0_checkBoundsOffCount_cabcc 2 = .ok (.iload_n 2, 1) := by decide +kernel
theorem dJ0_checkBoundsOffCount_cabcc_3 : decode cJ0_checkBoundsOffCount_cabcc 3 = .ok (.getstatic 1053, 3) := by decide +kernel
theorem dJ0_checkBoundsOffCount_cabcc_6 : decode cJ0_checkBoundsOffCount_cabcc 6 = .ok (.invokestatic 1065, 3) := by decide +kernel
theorem dJ0_checkBoundsOffCount_cabcc_9 : decode cJ0_checkBoundsOffCount_cabcc 9 = .ok (.ireturn, 1) := by decide +kernel
theorem dJ0_checkBoundsBeginEnd_23922_0 : decode cJ0_checkBoundsBeginEnd_23922 0 = .ok (.iload_n 0, 1) := by decide +kernel
theorem dJ0_checkBoundsBeginEnd_23922_1 : decode cJ0_checkBoundsBeginEnd_23922 1 = .ok (.iload_n 1, 1) := by decide +kernel
theorem dJ0_checkBoundsBeginEnd_23922_2 : decode cJ0_checkBoundsBeginEnd_23922 2 = .ok (.iload_n 2, 1) := by decide +kernel
theorem dJ0_checkBoundsBeginEnd_23922_3 : decode cJ0_checkBoundsBeginEnd_23922 3 = .ok (.getstatic 1053, 3) := by decide +kernel
theorem dJ0_checkBoundsBeginEnd_23922_6 : decode cJ0_checkBoundsBeginEnd_23922 6 = .ok (.invokestatic 1062, 3) := by decide +kernel
theorem dJ0_checkBoundsBeginEnd_23922_9 : decode cJ0_checkBoundsBeginEnd_23922 9 = .ok (.pop, 1) := by decide +kernel
theorem dJ0_checkBoundsBeginEnd_23922_10 : decode cJ0_checkBoundsBeginEnd_23922 10 = .ok (.return_, 1) := by decide +kernel
theorem dJ4_init_da8c8_0 : decode cJ4_init_da8c8 0 = .ok (.aload_n 0, 1) := by decide +kernel
theorem dJ4_init_da8c8_1 : decode cJ4_init_da8c8 1 = .ok (.bipush 16, 2) := by decide +kernel
theorem dJ4_init_da8c8_3 : decode cJ4_init_da8c8 3 = .ok (.invokespecial 1, 3) := by decide +kernel
theorem dJ4_init_da8c8_6 : decode cJ4_init_da8c8 6 = .ok (.return_, 1) := by decide +kernel
theorem dJ4_append_15ec4_0 : decode cJ4_append_15ec4 0 = .ok (.aload_n 0, 1) := by decide +kernel
theorem dJ4_append_15ec4_1 : decode cJ4_append_15ec4 1 = .ok (.aload_n 1, 1) := by decide +kernel
theorem dJ4_append_15ec4_2 : decode cJ4_append_15ec4 2 = .ok (.invokespecial 29, 3) := by decide +kernel
theorem dJ4_append_15ec4_5 : decode cJ4_append_15ec4 5 = .ok (.pop, 1) := by decide +kernel
theorem dJ4_append_15ec4_6 : decode cJ4_append_15ec4 6 = .ok (.aload_n 0, 1) := by decide +kernel
theorem dJ4_append_15ec4_7 : decode cJ4_append_15ec4 7 = .ok (.areturn, 1) := by decide +kernel
theorem dJ4_append_cf468_0 : decode cJ4_append_cf468 0 = .ok (.aload_n 0, 1) := by decide +kernel
theorem dJ4_append_cf468_1 : decode cJ4_append_cf468 1 = .ok (.iload_n 1, 1) := by decide +kernel
theorem dJ4_append_cf468_2 : decode cJ4_append_cf468 2 = .ok (.invokespecial 50, 3) := by decide +kernel
theorem dJ4_append_cf468_5 : decode cJ4_append_cf468 5 = .ok (.pop, 1) := by decide +kernel
theorem dJ4_append_cf468_6 : decode cJ4_append_cf468 6 = .ok (.aload_n 0, 1) := by decide +kernel
theorem dJ4_append_cf468_7 : decode cJ4_append_cf468 7 = .ok (.areturn, 1) := by decide +kernel
theorem dJ4_append_bf812_0 : decode cJ4_append_bf812 0 = .ok (.aload_n 0, 1) := by decide +kernel
theorem dJ4_append_bf812_1 : decode cJ4_append_bf812 1 = .ok (.iload_n 1, 1) := by decide +kernel
theorem dJ4_append_bf812_2 : decode cJ4_append_bf812 2 = .ok (.invokespecial 53, 3) := by decide +kernel
theorem dJ4_append_bf812_5 : decode cJ4_append_bf812 5 = .ok (.pop, 1) := by decide +kernel
theorem dJ4_append_bf812_6 : decode cJ4_append_bf812 6 = .ok (.aload_n 0, 1) := by decide +kernel
theorem dJ4_append_bf812_7 : decode cJ4_append_bf812 7 = .ok (.areturn, 1) := by decide +kernel
theorem dJ4_toString_0e30d_0 : decode cJ4_toString_0e30d 0 = .ok (.new 18, 3) := by decide +kernel
theorem dJ4_toString_0e30d_3 : decode cJ4_toString_0e30d 3 = .ok (.dup, 1) := by decide +kernel
theorem dJ4_toString_0e30d_4 : decode cJ4_toString_0e30d 4 = .ok (.aload_n 0, 1) := by decide +kernel
theorem dJ4_toString_0e30d_5 : decode cJ4_toString_0e30d 5 = .ok (.invokespecial 137, 3) := by decide +kernel
theorem dJ4_toString_0e30d_8 : decode cJ4_toString_0e30d 8 = .ok (.areturn, 1) := by decide +kernel
theorem dJ4_setLength_d00df_0 : decode cJ4_setLength_d00df 0 = .ok (.aload_n 0, 1) := by decide +kernel
theorem dJ4_setLength_d00df_1 : decode cJ4_setLength_d00df 1 = .ok (.iload_n 1, 1) := by decide +kernel
theorem dJ4_setLength_d00df_2 : decode cJ4_setLength_d00df 2 = .ok (.invokespecial 333, 3) := by decide +kernel
theorem dJ4_setLength_d00df_5 : decode cJ4_setLength_d00df 5 = .ok (.return_, 1) := by decide +kernel
theorem dJ4_length_8abf5_0 : decode cJ4_length_8abf5 0 = .ok (.aload_n 0, 1) := by decide +kernel
theorem dJ4_length_8abf5_1 : decode cJ4_length_8abf5 1 = .ok (.invokespecial 343, 3) := by decide +kernel
theorem dJ4_length_8abf5_4 : decode cJ4_length_8abf5 4 = .ok (.ireturn, 1) := by decide +kernel
theorem dJx7c733_init_d00df_0 : decode cJx7c733_init_d00df 0 = .ok (.aload_n 0, 1) := by decide +kernel
theorem dJx7c733_init_d00df_1 : decode cJx7c733_init_d00df 1 = .ok (.new 10, 3) := by decide +kernel
theorem dJx7c733_init_d00df_4 : decode cJx7c733_init_d00df 4 = .ok (.dup, 1) := by decide +kernel
theorem dJx7c733_init_d00df_5 : decode cJx7c733_init_d00df 5 = .ok (.invokespecial 12, 3) := by decide +kernel
theorem dJx7c733_init_d00df_8 : decode cJx7c733_init_d00df 8 = .ok (.ldc 13, 2) := by decide +kernel
theorem dJx7c733_init_d00df_10 : decode cJx7c733_init_d00df 10 = .ok (.invokevirtual 15, 3) := by decide +kernel
theorem dJx7c733_init_d00df_13 : decode cJx7c733_init_d00df 13 = .ok (.iload_n 1, 1) := by decide +kernel
theorem dJx7c733_init_d00df_14 : decode cJx7c733_init_d00df 14 = .ok (.invokevirtual 19, 3) := by decide +kernel
theorem dJx7c733_init_d00df_17 : decode cJx7c733_init_d00df 17 = .ok (.invokevirtual 22, 3) := by decide +kernel
theorem dJx7c733_init_d00df_20 : decode cJx7c733_init_d00df 20 = .ok (.invokespecial 7, 3) := by decide +kernel
theorem dJx7c733_init_d00df_23 : decode cJx7c733_init_d00df 23 = .ok (.return_, 1) := by decide +kernel
theorem dJ1_canEncode_fc78d_0 : decode cJ1_canEncode_fc78d 0 = .ok (.iload_n 0, 1) := by decide +kernel
theorem dJ1_canEncode_fc78d_1 : decode cJ1_canEncode_fc78d 1 = .ok (.sipush 255, 3) := by decide +kernel
theorem dJ1_canEncode_fc78d_4 : decode cJ1_canEncode_fc78d 4 = .ok (.if_icmp .gt 7, 3) := by decide +kernel
theorem dJ1_canEncode_fc78d_7 : decode cJ1_canEncode_fc78d 7 = .ok (.iconst 1, 1) := by decide +kernel
theorem dJ1_canEncode_fc78d_8 : decode cJ1_canEncode_fc78d 8 = .ok (.goto 4, 3) := by decide +kernel
theorem dJ1_canEncode_fc78d_11 : decode cJ1_canEncode_fc78d 11 = .ok (.iconst 0, 1) := by decide +kernel
theorem dJ1_canEncode_fc78d_12 : decode cJ1_canEncode_fc78d 12 = .ok (.ireturn, 1) := by decide +kernel
theorem dJ1_equals_b5fdf_0 : decode cJ1_equals_b5fdf 0 = .ok (.aload_n 0, 1) := by decide +kernel
theorem dJ1_equals_b5fdf_1 : decode cJ1_equals_b5fdf 1 = .ok (.arraylength, 1) := by decide +kernel
theorem dJ1_equals_b5fdf_2 : decode cJ1_equals_b5fdf 2 = .ok (.aload_n 1, 1) := by decide +kernel
theorem dJ1_equals_b5fdf_3 : decode cJ1_equals_b5fdf 3 = .ok (.arraylength, 1) := by decide +kernel
theorem dJ1_equals_b5fdf_4 : decode cJ1_equals_b5fdf 4 = .ok (.if_icmp .ne 30, 3) := by decide +kernel
theorem dJ1_equals_b5fdf_7 : decode cJ1_equals_b5fdf 7 = .ok (.iconst 0, 1) := by decide +kernel
theorem dJ1_equals_b5fdf_8 : decode cJ1_equals_b5fdf 8 = .ok (.istore_n 2, 1) := by decide +kernel
theorem dJ1_equals_b5fdf_9 : decode cJ1_equals_b5fdf 9 = .ok (.iload_n 2, 1) := by decide +kernel
theorem dJ1_equals_b5fdf_10 : decode cJ1_equals_b5fdf 10 = .ok (.aload_n 0, 1) := by decide +kernel
theorem dJ1_equals_b5fdf_11 : decode cJ1_equals_b5fdf 11 = .ok (.arraylength, 1) := by decide +kernel
theorem dJ1_equals_b5fdf_12 : decode cJ1_equals_b5fdf 12 = .ok (.if_icmp .ge 20, 3) := by decide +kernel
theorem dJ1_equals_b5fdf_15 : decode cJ1_equals_b5fdf 15 = .ok (.aload_n 0, 1) := by decide +kernel
theorem dJ1_equals_b5fdf_16 : decode cJ1_equals_b5fdf 16 = .ok (.iload_n 2, 1) := by decide +kernel
theorem dJ1_equals_b5fdf_17 : decode cJ1_equals_b5fdf 17 = .ok (.baload, 1) := by decide +kernel
theorem dJ1_equals_b5fdf_18 : decode cJ1_equals_b5fdf 18 = .ok (.aload_n 1, 1) := by decide +kernel
theorem dJ1_equals_b5fdf_19 : decode cJ1_equals_b5fdf 19 = .ok (.iload_n 2, 1) := by decide +kernel
theorem dJ1_equals_b5fdf_20 : decode cJ1_equals_b5fdf 20 = .ok (.baload, 1) := by decide +kernel
theorem dJ1_equals_b5fdf_21 : decode cJ1_equals_b5fdf 21 = .ok (.if_icmp .eq 5, 3) := by decide +kernel
theorem dJ1_equals_b5fdf_24 : decode cJ1_equals_b5fdf 24 = .ok (.iconst 0, 1) := by decide +kernel
theorem dJ1_equals_b5fdf_25 : decode cJ1_equals_b5fdf 25 = .ok (.ireturn, 1) := by decide +kernel
theorem dJ1_equals_b5fdf_26 : decode cJ1_equals_b5fdf 26 = .ok (.iinc 2 1, 3) := by decide +kernel
theorem dJ1_equals_b5fdf_29 : decode cJ1_equals_b5fdf 29 = .ok (.goto (-20), 3) := by decide +kernel
theorem dJ1_equals_b5fdf_32 : decode cJ1_equals_b5fdf 32 = .ok (.iconst 1, 1) := by decide +kernel
theorem dJ1_equals_b5fdf_33 : decode cJ1_equals_b5fdf 33 = .ok (.ireturn, 1) := by decide +kernel
theorem dJ1_equals_b5fdf_34 : decode cJ1_equals_b5fdf 34 = .ok (.iconst 0, 1) := by decide +kernel
theorem dJ1_equals_b5fdf_35 : decode cJ1_equals_b5fdf 35 = .ok (.ireturn, 1) := by decide +kernel
theorem dJ1_fillNull_b72d1_0 : decode cJ1_fillNull_b72d1 0 = .ok (.aload_n 0, 1) := by decide +kernel
theorem dJ1_fillNull_b72d1_1 : decode cJ1_fillNull_b72d1 1 = .ok (.iload_n 1, 1) := by decide +kernel
theorem dJ1_fillNull_b72d1_2 : decode cJ1_fillNull_b72d1 2 = .ok (.iload_n 2, 1) := by decide +kernel
theorem dJ1_fillNull_b72d1_3 : decode cJ1_fillNull_b72d1 3 = .ok (.iconst 0, 1) := by decide +kernel
theorem dJ1_fillNull_b72d1_4 : decode cJ1_fillNull_b72d1 4 = .ok (.invokestatic 236, 3) := by decide +kernel
theorem dJ1_fillNull_b72d1_7 : decode cJ1_fillNull_b72d1 7 = .ok (.return_, 1) := by decide +kernel
theorem dJ1_inflate_0e8fd_0 : decode cJ1_inflate_0e8fd 0 = .ok (.aload_n 0, 1) := by decide +kernel
theorem dJ1_inflate_0e8fd_1 : decode cJ1_inflate_0e8fd 1 = .ok (.iload_n 1, 1) := by decide +kernel
theorem dJ1_inflate_0e8fd_2 : decode cJ1_inflate_0e8fd 2 = .ok (.aload_n 2, 1) := by decide +kernel
theorem dJ1_inflate_0e8fd_3 : decode cJ1_inflate_0e8fd 3 = .ok (.iload_n 3, 1) := by decide +kernel
theorem dJ1_inflate_0e8fd_4 : decode cJ1_inflate_0e8fd 4 = .ok (.iload 4, 2) := by decide +kernel
theorem dJ1_inflate_0e8fd_6 : decode cJ1_inflate_0e8fd 6 = .ok (.invokestatic 240, 3) := by decide +kernel
theorem dJ1_inflate_0e8fd_9 : decode cJ1_inflate_0e8fd 9 = .ok (.return_, 1) := by decide +kernel
theorem dJ2_newBytesFor_77867_0 : decode cJ2_newBytesFor_77867 0 = .ok (.iload_n 0, 1) := by decide +kernel
theorem dJ2_newBytesFor_77867_1 : decode cJ2_newBytesFor_77867 1 = .ok (.invokestatic 11, 3) := by decide +kernel
theorem dJ2_newBytesFor_77867_4 : decode cJ2_newBytesFor_77867 4 = .ok (.newarray .byte, 2) := by decide +kernel
theorem dJ2_newBytesFor_77867_6 : decode cJ2_newBytesFor_77867 6 = .ok (.areturn, 1) := by decide +kernel
theorem dJ2_newBytesLength_0f7a4_0 : decode cJ2_newBytesLength_0f7a4 0 = .ok (.iload_n 0, 1) := by decide +kernel
theorem dJ2_newBytesLength_0f7a4_1 : decode cJ2_newBytesLength_0f7a4 1 = .ok (.ifCond .ge 11, 3) := by decide +kernel
theorem dJ2_newBytesLength_0f7a4_4 : decode cJ2_newBytesLength_0f7a4 4 = .ok (.new 17, 3) := by decide +kernel
theorem dJ2_newBytesLength_0f7a4_7 : decode cJ2_newBytesLength_0f7a4 7 = .ok (.dup, 1) := by decide +kernel
theorem dJ2_newBytesLength_0f7a4_8 : decode cJ2_newBytesLength_0f7a4 8 = .ok (.invokespecial 19, 3) := by decide +kernel
theorem dJ2_newBytesLength_0f7a4_11 : decode cJ2_newBytesLength_0f7a4 11 = .ok (.athrow, 1) := by decide +kernel
theorem dJ2_newBytesLength_0f7a4_12 : decode cJ2_newBytesLength_0f7a4 12 = .ok (.iload_n 0, 1) := by decide +kernel
theorem dJ2_newBytesLength_0f7a4_13 : decode cJ2_newBytesLength_0f7a4 13 = .ok (.ldc 20, 2) := by decide +kernel
theorem dJ2_newBytesLength_0f7a4_15 : decode cJ2_newBytesLength_0f7a4 15 = .ok (.if_icmp .lt 40, 3) := by decide +kernel
theorem dJ2_newBytesLength_0f7a4_18 : decode cJ2_newBytesLength_0f7a4 18 = .ok (.new 21, 3) := by decide +kernel
theorem dJ2_newBytesLength_0f7a4_21 : decode cJ2_newBytesLength_0f7a4 21 = .ok (.dup, 1) := by decide +kernel
theorem dJ2_newBytesLength_0f7a4_22 : decode cJ2_newBytesLength_0f7a4 22 = .ok (.new 23, 3) := by decide +kernel
theorem dJ2_newBytesLength_0f7a4_25 : decode cJ2_newBytesLength_0f7a4 25 = .ok (.dup, 1) := by decide +kernel
theorem dJ2_newBytesLength_0f7a4_26 : decode cJ2_newBytesLength_0f7a4 26 = .ok (.invokespecial 25, 3) := by decide +kernel
theorem dJ2_newBytesLength_0f7a4_29 : decode cJ2_newBytesLength_0f7a4 29 = .ok (.ldc 26, 2) := by decide +kernel
theorem dJ2_newBytesLength_0f7a4_31 : decode cJ2_newBytesLength_0f7a4 31 = .ok (.invokevirtual 28, 3) := by decide +kernel
theorem dJ2_newBytesLength_0f7a4_34 : decode cJ2_newBytesLength_0f7a4 34 = .ok (.iload_n 0, 1) := by decide +kernel
theorem dJ2_newBytesLength_0f7a4_35 : decode cJ2_newBytesLength_0f7a4 35 = .ok (.invokevirtual 32, 3) := by decide +kernel
theorem dJ2_newBytesLength_0f7a4_38 : decode cJ2_newBytesLength_0f7a4 38 = .ok (.ldc 35, 2) := by decide +kernel
theorem dJ2_newBytesLength_0f7a4_40 : decode cJ2_newBytesLength_0f7a4 40 = .ok (.invokevirtual 28, 3) := by decide +kernel
theorem dJ2_newBytesLength_0f7a4_43 : decode cJ2_newBytesLength_0f7a4 43 = .ok (.ldc 20, 2) := by decide +kernel
theorem dJ2_newBytesLength_0f7a4_45 : decode cJ2_newBytesLength_0f7a4 45 = .ok (.invokevirtual 32, 3) := by decide +kernel
theorem dJ2_newBytesLength_0f7a4_48 : decode cJ2_newBytesLength_0f7a4 48 = .ok (.invokevirtual 37, 3) := by decide +kernel
theorem dJ2_newBytesLength_0f7a4_51 : decode cJ2_newBytesLength_0f7a4 51 = .ok (.invokespecial 41, 3) := by decide +kernel
theorem dJ2_newBytesLength_0f7a4_54 : decode cJ2_newBytesLength_0f7a4 54 = .ok (.athrow, 1) := by decide +kernel
theorem dJ2_newBytesLength_0f7a4_55 : decode cJ2_newBytesLength_0f7a4 55 = .ok (.iload_n 0, 1) := by decide +kernel
theorem dJ2_newBytesLength_0f7a4_56 : decode cJ2_newBytesLength_0f7a4 56 = .ok (.iconst 1, 1) := by decide +kernel
theorem dJ2_newBytesLength_0f7a4_57 : decode cJ2_newBytesLength_0f7a4 57 = .ok (.ishl, 1) := by decide +kernel
theorem dJ2_newBytesLength_0f7a4_58 : decode cJ2_newBytesLength_0f7a4 58 = .ok (.ireturn, 1) := by decide +kernel
theorem dJ2_putChar_b72d1_0 : decode cJ2_putChar_b72d1 0 = .ok (.getstatic 44, 3) := by decide +kernel
theorem dJ2_putChar_b72d1_3 : decode cJ2_putChar_b72d1 3 = .ok (.ifCond .ne 25, 3) := by decide +kernel
theorem dJ2_putChar_b72d1_6 : decode cJ2_putChar_b72d1 6 = .ok (.iload_n 1, 1) := by decide +kernel
theorem dJ2_putChar_b72d1_7 : decode cJ2_putChar_b72d1 7 = .ok (.ifCond .lt 11, 3) := by decide +kernel
theorem dJ2_putChar_b72d1_10 : decode cJ2_putChar_b72d1 10 = .ok (.iload_n 1, 1) := by decide +kernel
theorem dJ2_putChar_b72d1_11 : decode cJ2_putChar_b72d1 11 = .ok (.aload_n 0, 1) := by decide +kernel
theorem dJ2_putChar_b72d1_12 : decode cJ2_putChar_b72d1 12 = .ok (.invokestatic 48, 3) := by decide +kernel
theorem dJ2_putChar_b72d1_15 : decode cJ2_putChar_b72d1 15 = .ok (.if_icmp .lt 13, 3) := by decide +kernel
theorem dJ2_putChar_b72d1_18 : decode cJ2_putChar_b72d1 18 = .ok (.new 52, 3) := by decide +kernel
theorem dJ2_putChar_b72d1_21 : decode cJ2_putChar_b72d1 21 = .ok (.dup, 1) := by decide +kernel
theorem dJ2_putChar_b72d1_22 : decode cJ2_putChar_b72d1 22 = .ok (.ldc 54, 2) := by decide +kernel
theorem dJ2_putChar_b72d1_24 : decode cJ2_putChar_b72d1 24 = .ok (.invokespecial 56, 3) := by decide +kernel
theorem dJ2_putChar_b72d1_27 : decode cJ2_putChar_b72d1 27 = .ok (.athrow, 1) := by decide +kernel
theorem dJ2_putChar_b72d1_28 : decode cJ2_putChar_b72d1 28 = .ok (.iload_n 1, 1) := by decide +kernel
theorem dJ2_putChar_b72d1_29 : decode cJ2_putChar_b72d1 29 = .ok (.iconst 1, 1) := by decide +kernel
theorem dJ2_putChar_b72d1_30 : decode cJ2_putChar_b72d1 30 = .ok (.ishl, 1) := by decide +kernel
theorem dJ2_putChar_b72d1_31 : decode cJ2_putChar_b72d1 31 = .ok (.istore_n 1, 1) := by decide +kernel
theorem dJ2_putChar_b72d1_32 : decode cJ2_putChar_b72d1 32 = .ok (.aload_n 0, 1) := by decide +kernel
theorem dJ2_putChar_b72d1_33 : decode cJ2_putChar_b72d1 33 = .ok (.iload_n 1, 1) := by decide +kernel
theorem dJ2_putChar_b72d1_34 : decode cJ2_putChar_b72d1 34 = .ok (.iinc 1 1, 3) := by decide +kernel
theorem dJ2_putChar_b72d1_37 : decode cJ2_putChar_b72d1 37 = .ok (.iload_n 2, 1) := by decide +kernel
theorem dJ2_putChar_b72d1_38 : decode cJ2_putChar_b72d1 38 = .ok (.getstatic 59, 3) := by decide +kernel
theorem dJ2_putChar_b72d1_41 : decode cJ2_putChar_b72d1 41 = .ok (.ishr, 1) := by decide +kernel
theorem dJ2_putChar_b72d1_42 : decode cJ2_putChar_b72d1 42 = .ok (.i2b, 1) := by decide +kernel
theorem dJ2_putChar_b72d1_43 : decode cJ2_putChar_b72d1 43 = .ok (.bastore, 1) := by decide +kernel
theorem dJ2_putChar_b72d1_44 : decode cJ2_putChar_b72d1 44 = .ok (.aload_n 0, 1) := by decide +kernel
theorem dJ2_putChar_b72d1_45 : decode cJ2_putChar_b72d1 45 = .ok (.iload_n 1, 1) := by decide +kernel
theorem dJ2_putChar_b72d1_46 : decode cJ2_putChar_b72d1 46 = .ok (.iload_n 2, 1) := by decide +kernel
theorem dJ2_putChar_b72d1_47 : decode cJ2_putChar_b72d1 47 = .ok (.getstatic 63, 3) := by decide +kernel
theorem dJ2_putChar_b72d1_50 : decode cJ2_putChar_b72d1 50 = .ok (.ishr, 1) := by decide +kernel
theorem dJ2_putChar_b72d1_51 : decode cJ2_putChar_b72d1 51 = .ok (.i2b, 1) := by decide +kernel
theorem dJ2_putChar_b72d1_52 : decode cJ2_putChar_b72d1 52 = .ok (.bastore, 1) := by decide +kernel
theorem dJ2_putChar_b72d1_53 : decode cJ2_putChar_b72d1 53 = .ok (.return_, 1) := by decide +kernel
theorem dJ2_getChar_3b067_0 : decode cJ2_getChar_3b067 0 = .ok (.getstatic 44, 3) := by decide +kernel
theorem dJ2_getChar_3b067_3 : decode cJ2_getChar_3b067 3 = .ok (.ifCond .ne 25, 3) := by decide +kernel
theorem dJ2_getChar_3b067_6 : decode cJ2_getChar_3b067 6 = .ok (.iload_n 1, 1) := by decide +kernel
theorem dJ2_getChar_3b067_7 : decode cJ2_getChar_3b067 7 = .ok (.ifCond .lt 11, 3) := by decide +kernel
theorem dJ2_getChar_3b067_10 : decode cJ2_getChar_3b067 10 = .ok (.iload_n 1, 1) := by decide +kernel
theorem dJ2_getChar_3b067_11 : decode cJ2_getChar_3b067 11 = .ok (.aload_n 0, 1) := by decide +kernel
theorem dJ2_getChar_3b067_12 : decode cJ2_getChar_3b067 12 = .ok (.invokestatic 48, 3) := by decide +kernel
theorem dJ2_getChar_3b067_15 : decode cJ2_getChar_3b067 15 = .ok (.if_icmp .lt 13, 3) := by decide +kernel
theorem dJ2_getChar_3b067_18 : decode cJ2_getChar_3b067 18 = .ok (.new 52, 3) := by decide +kernel
theorem dJ2_getChar_3b067_21 : decode cJ2_getChar_3b067 21 = .ok (.dup, 1) := by decide +kernel
theorem dJ2_getChar_3b067_22 : decode cJ2_getChar_3b067 22 = .ok (.ldc 54, 2) := by decide +kernel
theorem dJ2_getChar_3b067_24 : decode cJ2_getChar_3b067 24 = .ok (.invokespecial 56, 3) := by decide +kernel
theorem dJ2_getChar_3b067_27 : decode cJ2_getChar_3b067 27 = .ok (.athrow, 1) := by decide +kernel
theorem dJ2_getChar_3b067_28 : decode cJ2_getChar_3b067 28 = .ok (.iload_n 1, 1) := by decide +kernel
theorem dJ2_getChar_3b067_29 : decode cJ2_getChar_3b067 29 = .ok (.iconst 1, 1) := by decide +kernel
theorem dJ2_getChar_3b067_30 : decode cJ2_getChar_3b067 30 = .ok (.ishl, 1) := by decide +kernel
theorem dJ2_getChar_3b067_31 : decode cJ2_getChar_3b067 31 = .ok (.istore_n 1, 1) := by decide +kernel
theorem dJ2_getChar_3b067_32 : decode cJ2_getChar_3b067 32 = .ok (.aload_n 0, 1) := by decide +kernel
theorem dJ2_getChar_3b067_33 : decode cJ2_getChar_3b067 33 = .ok (.iload_n 1, 1) := by decide +kernel
theorem dJ2_getChar_3b067_34 : decode cJ2_getChar_3b067 34 = .ok (.iinc 1 1, 3) := by decide +kernel
theorem dJ2_getChar_3b067_37 : decode cJ2_getChar_3b067 37 = .ok (.baload, 1) := by decide +kernel
theorem dJ2_getChar_3b067_38 : decode cJ2_getChar_3b067 38 = .ok (.sipush 255, 3) := by decide +kernel
theorem dJ2_getChar_3b067_41 : decode cJ2_getChar_3b067 41 = .ok (.iand, 1) := by decide +kernel
theorem dJ2_getChar_3b067_42 : decode cJ2_getChar_3b067 42 = .ok (.getstatic 59, 3) := by decide +kernel
theorem dJ2_getChar_3b067_45 : decode cJ2_getChar_3b067 45 = .ok (.ishl, 1) := by decide +kernel
theorem dJ2_getChar_3b067_46 : decode cJ2_getChar_3b067 46 = .ok (.aload_n 0, 1) := by decide +kernel
theorem dJ2_getChar_3b067_47 : decode cJ2_getChar_3b067 47 = .ok (.iload_n 1, 1) := by decide +kernel
theorem dJ2_getChar_3b067_48 : decode cJ2_getChar_3b067 48 = .ok (.baload, 1) := by decide +kernel
theorem dJ2_getChar_3b067_49 : decode cJ2_getChar_3b067 49 = .ok (.sipush 255, 3) := by decide +kernel
theorem dJ2_getChar_3b067_52 : decode cJ2_getChar_3b067 52 = .ok (.iand, 1) := by decide +kernel
theorem dJ2_getChar_3b067_53 : decode cJ2_getChar_3b067 53 = .ok (.getstatic 63, 3) := by decide +kernel
theorem dJ2_getChar_3b067_56 : decode cJ2_getChar_3b067 56 = .ok (.ishl, 1) := by decide +kernel
theorem dJ2_getChar_3b067_57 : decode cJ2_getChar_3b067 57 = .ok (.ior, 1) := by decide +kernel
theorem dJ2_getChar_3b067_58 : decode cJ2_getChar_3b067 58 = .ok (.i2c, 1) := by decide +kernel
theorem dJ2_getChar_3b067_59 : decode cJ2_getChar_3b067 59 = .ok (.ireturn, 1) := by decide +kernel
theorem dJ2_length_9d52b_0 : decode cJ2_length_9d52b 0 = .ok (.aload_n 0, 1) := by decide +kernel
theorem dJ2_length_9d52b_1 : decode cJ2_length_9d52b 1 = .ok (.arraylength, 1) := by decide +kernel
theorem dJ2_length_9d52b_2 : decode cJ2_length_9d52b 2 = .ok (.iconst 1, 1) := by decide +kernel
theorem dJ2_length_9d52b_3 : decode cJ2_length_9d52b 3 = .ok (.ishr, 1) := by decide +kernel
theorem dJ2_length_9d52b_4 : decode cJ2_length_9d52b 4 = .ok (.ireturn, 1) := by decide +kernel
theorem dJ2_coderFromArrayLen_85cad_0 : decode cJ2_coderFromArrayLen_85cad 0 = .ok (.iload_n 1, 1) := by decide +kernel
theorem dJ2_coderFromArrayLen_85cad_1 : decode cJ2_coderFromArrayLen_85cad 1 = .ok (.aload_n 0, 1) := by decide +kernel
theorem dJ2_coderFromArrayLen_85cad_2 : decode cJ2_coderFromArrayLen_85cad 2 = .ok (.arraylength, 1) := by decide +kernel
theorem dJ2_coderFromArrayLen_85cad_3 : decode cJ2_coderFromArrayLen_85cad 3 = .ok (.isub, 1) := by decide +kernel
theorem dJ2_coderFromArrayLen_85cad_4 : decode cJ2_coderFromArrayLen_85cad 4 = .ok (.bipush 31, 2) := by decide +kernel
theorem dJ2_coderFromArrayLen_85cad_6 : decode cJ2_coderFromArrayLen_85cad 6 = .ok (.iushr, 1) := by decide +kernel
theorem dJ2_coderFromArrayLen_85cad_7 : decode cJ2_coderFromArrayLen_85cad 7 = .ok (.i2b, 1) := by decide +kernel
theorem dJ2_coderFromArrayLen_85cad_8 : decode cJ2_coderFromArrayLen_85cad 8 = .ok (.ireturn, 1) := by decide +kernel
theorem dJ2_compress_39247_0 : decode cJ2_compress_39247 0 = .ok (.iload_n 2, 1) := by decide +kernel
theorem dJ2_compress_39247_1 : decode cJ2_compress_39247 1 = .ok (.newarray .byte, 2) := by decide +kernel
theorem dJ2_compress_39247_3 : decode cJ2_compress_39247 3 = .ok (.astore_n 3, 1) := by decide +kernel
theorem dJ2_compress_39247_4 : decode cJ2_compress_39247 4 = .ok (.aload_n 0, 1) := by decide +kernel
theorem dJ2_compress_39247_5 : decode cJ2_compress_39247 5 = .ok (.iload_n 1, 1) := by decide +kernel
theorem dJ2_compress_39247_6 : decode cJ2_compress_39247 6 = .ok (.aload_n 3, 1) := by decide +kernel
theorem dJ2_compress_39247_7 : decode cJ2_compress_39247 7 = .ok (.iconst 0, 1) := by decide +kernel
theorem dJ2_compress_39247_8 : decode cJ2_compress_39247 8 = .ok (.iload_n 2, 1) := by decide +kernel
theorem dJ2_compress_39247_9 : decode cJ2_compress_39247 9 = .ok (.invokestatic 123, 3) := by decide +kernel
theorem dJ2_compress_39247_12 : decode cJ2_compress_39247 12 = .ok (.istore 4, 2) := by decide +kernel
theorem dJ2_compress_39247_14 : decode cJ2_compress_39247 14 = .ok (.iload 4, 2) := by decide +kernel
theorem dJ2_compress_39247_16 : decode cJ2_compress_39247 16 = .ok (.iload_n 2, 1) := by decide +kernel
theorem dJ2_compress_39247_17 : decode cJ2_compress_39247 17 = .ok (.if_icmp .eq 47, 3) := by decide +kernel
theorem dJ2_compress_39247_20 : decode cJ2_compress_39247 20 = .ok (.aload_n 0, 1) := by decide +kernel
theorem dJ2_compress_39247_21 : decode cJ2_compress_39247 21 = .ok (.iload_n 1, 1) := by decide +kernel
theorem dJ2_compress_39247_22 : decode cJ2_compress_39247 22 = .ok (.iconst 1, 1) := by decide +kernel
theorem dJ2_compress_39247_23 : decode cJ2_compress_39247 23 = .ok (.ishl, 1) := by decide +kernel
theorem dJ2_compress_39247_24 : decode cJ2_compress_39247 24 = .ok (.iload_n 1, 1) := by decide +kernel
theorem dJ2_compress_39247_25 : decode cJ2_compress_39247 25 = .ok (.iload_n 2, 1) := by decide +kernel
theorem dJ2_compress_39247_26 : decode cJ2_compress_39247 26 = .ok (.iadd, 1) := by decide +kernel
theorem dJ2_compress_39247_27 : decode cJ2_compress_39247 27 = .ok (.invokestatic 11, 3) := by decide +kernel
theorem dJ2_compress_39247_30 : decode cJ2_compress_39247 30 = .ok (.invokestatic 126, 3) := by decide +kernel
theorem dJ2_compress_39247_33 : decode cJ2_compress_39247 33 = .ok (.astore 5, 2) := by decide +kernel
theorem dJ2_compress_39247_35 : decode cJ2_compress_39247 35 = .ok (.aload 5, 2) := by decide +kernel
theorem dJ2_compress_39247_37 : decode cJ2_compress_39247 37 = .ok (.iload 4, 2) := by decide +kernel
theorem dJ2_compress_39247_39 : decode cJ2_compress_39247 39 = .ok (.invokestatic 71, 3) := by decide +kernel
theorem dJ2_compress_39247_42 : decode cJ2_compress_39247 42 = .ok (.sipush 255, 3) := by decide +kernel
theorem dJ2_compress_39247_45 : decode cJ2_compress_39247 45 = .ok (.if_icmp .gt 16, 3) := by decide +kernel
theorem dJ2_compress_39247_48 : decode cJ2_compress_39247 48 = .ok (.aload 5, 2) := by decide +kernel
theorem dJ2_compress_39247_50 : decode cJ2_compress_39247 50 = .ok (.iconst 0, 1) := by decide +kernel
theorem dJ2_compress_39247_51 : decode cJ2_compress_39247 51 = .ok (.aload_n 3, 1) := by decide +kernel
theorem dJ2_compress_39247_52 : decode cJ2_compress_39247 52 = .ok (.iconst 0, 1) := by decide +kernel
theorem dJ2_compress_39247_53 : decode cJ2_compress_39247 53 = .ok (.iload_n 2, 1) := by decide +kernel
theorem dJ2_compress_39247_54 : decode cJ2_compress_39247 54 = .ok (.invokestatic 123, 3) := by decide +kernel
theorem dJ2_compress_39247_57 : decode cJ2_compress_39247 57 = .ok (.iload_n 2, 1) := by decide +kernel
theorem dJ2_compress_39247_58 : decode cJ2_compress_39247 58 = .ok (.if_icmp .eq 6, 3) := by decide +kernel
theorem dJ2_compress_39247_61 : decode cJ2_compress_39247 61 = .ok (.aload 5, 2) := by decide +kernel
theorem dJ2_compress_39247_63 : decode cJ2_compress_39247 63 = .ok (.areturn, 1) := by decide +kernel
theorem dJ2_compress_39247_64 : decode cJ2_compress_39247 64 = .ok (.aload_n 3, 1) := by decide +kernel
theorem dJ2_compress_39247_65 : decode cJ2_compress_39247 65 = .ok (.areturn, 1) := by decide +kernel
theorem dJ2_compress_5af95_0 : decode cJ2_compress_5af95 0 = .ok (.iload_n 1, 1) := by decide +kernel
theorem dJ2_compress_5af95_1 : decode cJ2_compress_5af95 1 = .ok (.iload 4, 2) := by decide +kernel
theorem dJ2_compress_5af95_3 : decode cJ2_compress_5af95 3 = .ok (.aload_n 0, 1) := by decide +kernel
theorem dJ2_compress_5af95_4 : decode cJ2_compress_5af95 4 = .ok (.invokestatic 173, 3) := by decide +kernel
theorem dJ2_compress_5af95_7 : decode cJ2_compress_5af95 7 = .ok (.iconst 0, 1) := by decide +kernel
theorem dJ2_compress_5af95_8 : decode cJ2_compress_5af95 8 = .ok (.istore 5, 2) := by decide +kernel
theorem dJ2_compress_5af95_10 : decode cJ2_compress_5af95 10 = .ok (.iload 5, 2) := by decide +kernel
theorem dJ2_compress_5af95_12 : decode cJ2_compress_5af95 12 = .ok (.iload 4, 2) := by decide +kernel
theorem dJ2_compress_5af95_14 : decode cJ2_compress_5af95 14 = .ok (.if_icmp .ge 39, 3) := by decide +kernel
theorem dJ2_compress_5af95_17 : decode cJ2_compress_5af95 17 = .ok (.aload_n 0, 1) := by decide +kernel
theorem dJ2_compress_5af95_18 : decode cJ2_compress_5af95 18 = .ok (.iload_n 1, 1) := by decide +kernel
theorem dJ2_compress_5af95_19 : decode cJ2_compress_5af95 19 = .ok (.invokestatic 71, 3) := by decide +kernel
theorem dJ2_compress_5af95_22 : decode cJ2_compress_5af95 22 = .ok (.istore 6, 2) := by decide +kernel
theorem dJ2_compress_5af95_24 : decode cJ2_compress_5af95 24 = .ok (.iload 6, 2) := by decide +kernel
theorem dJ2_compress_5af95_26 : decode cJ2_compress_5af95 26 = .ok (.sipush 255, 3) := by decide +kernel
theorem dJ2_compress_5af95_29 : decode cJ2_compress_5af95 29 = .ok (.if_icmp .le 6, 3) := by decide +kernel
theorem dJ2_compress_5af95_32 : decode cJ2_compress_5af95 32 = .ok (.iload 5, 2) := by decide +kernel
theorem dJ2_compress_5af95_34 : decode cJ2_compress_5af95 34 = .ok (.ireturn, 1) := by decide +kernel
theorem dJ2_compress_5af95_35 : decode cJ2_compress_5af95 35 = .ok (.aload_n 2, 1) := by decide +kernel
theorem dJ2_compress_5af95_36 : decode cJ2_compress_5af95 36 = .ok (.iload_n 3, 1) := by decide +kernel
theorem dJ2_compress_5af95_37 : decode cJ2_compress_5af95 37 = .ok (.iload 6, 2) := by decide +kernel
theorem dJ2_compress_5af95_39 : decode cJ2_compress_5af95 39 = .ok (.i2b, 1) := by decide +kernel
theorem dJ2_compress_5af95_40 : decode cJ2_compress_5af95 40 = .ok (.bastore, 1) := by decide +kernel
theorem dJ2_compress_5af95_41 : decode cJ2_compress_5af95 41 = .ok (.iinc 1 1, 3) := by decide +kernel
theorem dJ2_compress_5af95_44 : decode cJ2_compress_5af95 44 = .ok (.iinc 3 1, 3) := by decide +kernel
theorem dJ2_compress_5af95_47 : decode cJ2_compress_5af95 47 = .ok (.iinc 5 1, 3) := by decide +kernel
theorem dJ2_compress_5af95_50 : decode cJ2_compress_5af95 50 = .ok (.goto (-40), 3) := by decide +kernel
theorem dJ2_compress_5af95_53 : decode cJ2_compress_5af95 53 = .ok (.iload 4, 2) := by decide +kernel
theorem dJ2_compress_5af95_55 : decode cJ2_compress_5af95 55 = .ok (.ireturn, 1) := by decide +kernel
theorem dJ2_fillNull_b72d1_0 : decode cJ2_fillNull_b72d1 0 = .ok (.aload_n 0, 1) := by decide +kernel
theorem dJ2_fillNull_b72d1_1 : decode cJ2_fillNull_b72d1 1 = .ok (.iload_n 1, 1) := by decide +kernel
theorem dJ2_fillNull_b72d1_2 : decode cJ2_fillNull_b72d1 2 = .ok (.iconst 1, 1) := by decide +kernel
theorem dJ2_fillNull_b72d1_3 : decode cJ2_fillNull_b72d1 3 = .ok (.ishl, 1) := by decide +kernel
theorem dJ2_fillNull_b72d1_4 : decode cJ2_fillNull_b72d1 4 = .ok (.iload_n 2, 1) := by decide +kernel
theorem dJ2_fillNull_b72d1_5 : decode cJ2_fillNull_b72d1 5 = .ok (.iconst 1, 1) := by decide +kernel
theorem dJ2_fillNull_b72d1_6 : decode cJ2_fillNull_b72d1 6 = .ok (.ishl, 1) := by decide +kernel
theorem dJ2_fillNull_b72d1_7 : decode cJ2_fillNull_b72d1 7 = .ok (.iconst 0, 1) := by decide +kernel
theorem dJ2_fillNull_b72d1_8 : decode cJ2_fillNull_b72d1 8 = .ok (.invokestatic 380, 3) := by decide +kernel
theorem dJ2_fillNull_b72d1_11 : decode cJ2_fillNull_b72d1 11 = .ok (.return_, 1) := by decide +kernel
theorem dJ2_putCharSB_b72d1_0 : decode cJ2_putCharSB_b72d1 0 = .ok (.iload_n 1, 1) := by decide +kernel
theorem dJ2_putCharSB_b72d1_1 : decode cJ2_putCharSB_b72d1 1 = .ok (.aload_n 0, 1) := by decide +kernel
theorem dJ2_putCharSB_b72d1_2 : decode cJ2_putCharSB_b72d1 2 = .ok (.invokestatic 67, 3) := by decide +kernel
theorem dJ2_putCharSB_b72d1_5 : decode cJ2_putCharSB_b72d1 5 = .ok (.aload_n 0, 1) := by decide +kernel
theorem dJ2_putCharSB_b72d1_6 : decode cJ2_putCharSB_b72d1 6 = .ok (.iload_n 1, 1) := by decide +kernel
theorem dJ2_putCharSB_b72d1_7 : decode cJ2_putCharSB_b72d1 7 = .ok (.iload_n 2, 1) := by decide +kernel
theorem dJ2_putCharSB_b72d1_8 : decode cJ2_putCharSB_b72d1 8 = .ok (.invokestatic 111, 3) := by decide +kernel
theorem dJ2_putCharSB_b72d1_11 : decode cJ2_putCharSB_b72d1 11 = .ok (.return_, 1) := by decide +kernel
theorem dJ2_getChars_46870_0 : decode cJ2_getChars_46870 0 = .ok (.iload_n 1, 1) := by decide +kernel
theorem dJ2_getChars_46870_1 : decode cJ2_getChars_46870 1 = .ok (.iload_n 2, 1) := by decide +kernel
theorem dJ2_getChars_46870_2 : decode cJ2_getChars_46870 2 = .ok (.aload_n 3, 1) := by decide +kernel
theorem dJ2_getChars_46870_3 : decode cJ2_getChars_46870 3 = .ok (.invokestatic 96, 3) := by decide +kernel
theorem dJ2_getChars_46870_6 : decode cJ2_getChars_46870 6 = .ok (.iload_n 0, 1) := by decide +kernel
theorem dJ2_getChars_46870_7 : decode cJ2_getChars_46870 7 = .ok (.iload_n 2, 1) := by decide +kernel
theorem dJ2_getChars_46870_8 : decode cJ2_getChars_46870 8 = .ok (.aload_n 3, 1) := by decide +kernel
theorem dJ2_getChars_46870_9 : decode cJ2_getChars_46870 9 = .ok (.invokestatic 393, 3) := by decide +kernel
theorem dJ2_getChars_46870_12 : decode cJ2_getChars_46870 12 = .ok (.istore 4, 2) := by decide +kernel
theorem dJ2_getChars_46870_14 : decode cJ2_getChars_46870 14 = .ok (.getstatic 44, 3) := by decide +kernel
theorem dJ2_getChars_46870_17 : decode cJ2_getChars_46870 17 = .ok (.ifCond .ne 17, 3) := by decide +kernel
theorem dJ2_getChars_46870_20 : decode cJ2_getChars_46870 20 = .ok (.iload_n 1, 1) := by decide +kernel
theorem dJ2_getChars_46870_21 : decode cJ2_getChars_46870 21 = .ok (.iload 4, 2) := by decide +kernel
theorem dJ2_getChars_46870_23 : decode cJ2_getChars_46870 23 = .ok (.if_icmp .eq 11, 3) := by decide +kernel
theorem dJ2_getChars_46870_26 : decode cJ2_getChars_46870 26 = .ok (.new 52, 3) := by decide +kernel
theorem dJ2_getChars_46870_29 : decode cJ2_getChars_46870 29 = .ok (.dup, 1) := by decide +kernel
theorem dJ2_getChars_46870_30 : decode cJ2_getChars_46870 30 = .ok (.invokespecial 66, 3) := by decide +kernel
theorem dJ2_getChars_46870_33 : decode cJ2_getChars_46870 33 = .ok (.athrow, 1) := by decide +kernel
theorem dJ2_getChars_46870_34 : decode cJ2_getChars_46870 34 = .ok (.iload 4, 2) := by decide +kernel
theorem dJ2_getChars_46870_36 : decode cJ2_getChars_46870 36 = .ok (.ireturn, 1) := by decide +kernel
theorem dJ2_putCharsAt_cd4e5_0 : decode cJ2_putCharsAt_cd4e5 0 = .ok (.iload_n 1, 1) := by decide +kernel
theorem dJ2_putCharsAt_cd4e5_1 : decode cJ2_putCharsAt_cd4e5 1 = .ok (.iconst 4, 1) := by decide +kernel
theorem dJ2_putCharsAt_cd4e5_2 : decode cJ2_putCharsAt_cd4e5 2 = .ok (.iadd, 1) := by decide +kernel
theorem dJ2_putCharsAt_cd4e5_3 : decode cJ2_putCharsAt_cd4e5 3 = .ok (.istore 6, 2) := by decide +kernel
theorem dJ2_putCharsAt_cd4e5_5 : decode cJ2_putCharsAt_cd4e5 5 = .ok (.iload_n 1, 1) := by decide +kernel
theorem dJ2_putCharsAt_cd4e5_6 : decode cJ2_putCharsAt_cd4e5 6 = .ok (.iload 6, 2) := by decide +kernel
theorem dJ2_putCharsAt_cd4e5_8 : decode cJ2_putCharsAt_cd4e5 8 = .ok (.aload_n 0, 1) := by decide +kernel
theorem dJ2_putCharsAt_cd4e5_9 : decode cJ2_putCharsAt_cd4e5 9 = .ok (.invokestatic 96, 3) := by decide +kernel
theorem dJ2_putCharsAt_cd4e5_12 : decode cJ2_putCharsAt_cd4e5 12 = .ok (.aload_n 0, 1) := by decide +kernel
theorem dJ2_putCharsAt_cd4e5_13 : decode cJ2_putCharsAt_cd4e5 13 = .ok (.iload_n 1, 1) := by decide +kernel
theorem dJ2_putCharsAt_cd4e5_14 : decode cJ2_putCharsAt_cd4e5 14 = .ok (.iinc 1 1, 3) := by decide +kernel
theorem dJ2_putCharsAt_cd4e5_17 : decode cJ2_putCharsAt_cd4e5 17 = .ok (.iload_n 2, 1) := by decide +kernel
theorem dJ2_putCharsAt_cd4e5_18 : decode cJ2_putCharsAt_cd4e5 18 = .ok (.invokestatic 111, 3) := by decide +kernel
theorem dJ2_putCharsAt_cd4e5_21 : decode cJ2_putCharsAt_cd4e5 21 = .ok (.aload_n 0, 1) := by decide +kernel
theorem dJ2_putCharsAt_cd4e5_22 : decode cJ2_putCharsAt_cd4e5 22 = .ok (.iload_n 1, 1) := by decide +kernel
theorem dJ2_putCharsAt_cd4e5_23 : decode cJ2_putCharsAt_cd4e5 23 = .ok (.iinc 1 1, 3) := by decide +kernel
theorem dJ2_putCharsAt_cd4e5_26 : decode cJ2_putCharsAt_cd4e5 26 = .ok (.iload_n 3, 1) := by decide +kernel
theorem dJ2_putCharsAt_cd4e5_27 : decode cJ2_putCharsAt_cd4e5 27 = .ok (.invokestatic 111, 3) := by decide +kernel
theorem dJ2_putCharsAt_cd4e5_30 : decode cJ2_putCharsAt_cd4e5 30 = .ok (.aload_n 0, 1) := by decide +kernel
theorem dJ2_putCharsAt_cd4e5_31 : decode cJ2_putCharsAt_cd4e5 31 = .ok (.iload_n 1, 1) := by decide +kernel
theorem dJ2_putCharsAt_cd4e5_32 : decode cJ2_putCharsAt_cd4e5 32 = .ok (.iinc 1 1, 3) := by decide +kernel
theorem dJ2_putCharsAt_cd4e5_35 : decode cJ2_putCharsAt_cd4e5 35 = .ok (.iload 4, 2) := by decide +kernel
theorem dJ2_putCharsAt_cd4e5_37 : decode cJ2_putCharsAt_cd4e5 37 = .ok (.invokestatic 111, 3) := by decide +kernel
theorem dJ2_putCharsAt_cd4e5_40 : decode cJ2_putCharsAt_cd4e5 40 = .ok (.aload_n 0, 1) := by decide +kernel
theorem dJ2_putCharsAt_cd4e5_41 : decode cJ2_putCharsAt_cd4e5 41 = .ok (.iload_n 1, 1) := by decide +kernel
theorem dJ2_putCharsAt_cd4e5_42 : decode cJ2_putCharsAt_cd4e5 42 = .ok (.iinc 1 1, 3) := by decide +kernel
theorem dJ2_putCharsAt_cd4e5_45 : decode cJ2_putCharsAt_cd4e5 45 = .ok (.iload 5, 2) := by decide +kernel
theorem dJ2_putCharsAt_cd4e5_47 : decode cJ2_putCharsAt_cd4e5 47 = .ok (.invokestatic 111, 3) := by decide +kernel
theorem dJ2_putCharsAt_cd4e5_50 : decode cJ2_putCharsAt_cd4e5 50 = .ok (.getstatic 44, 3) := by decide +kernel
theorem dJ2_putCharsAt_cd4e5_53 : decode cJ2_putCharsAt_cd4e5 53 = .ok (.ifCond .ne 17, 3) := by decide +kernel
theorem dJ2_putCharsAt_cd4e5_56 : decode cJ2_putCharsAt_cd4e5 56 = .ok (.iload_n 1, 1) := by decide +kernel
theorem dJ2_putCharsAt_cd4e5_57 : decode cJ2_putCharsAt_cd4e5 57 = .ok (.iload 6, 2) := by decide +kernel
theorem dJ2_putCharsAt_cd4e5_59 : decode cJ2_putCharsAt_cd4e5 59 = .ok (.if_icmp .eq 11, 3) := by decide +kernel
theorem dJ2_putCharsAt_cd4e5_62 : decode cJ2_putCharsAt_cd4e5 62 = .ok (.new 52, 3) := by decide +kernel
theorem dJ2_putCharsAt_cd4e5_65 : decode cJ2_putCharsAt_cd4e5 65 = .ok (.dup, 1) := by decide +kernel
theorem dJ2_putCharsAt_cd4e5_66 : decode cJ2_putCharsAt_cd4e5 66 = .ok (.invokespecial 66, 3) := by decide +kernel
theorem dJ2_putCharsAt_cd4e5_69 : decode cJ2_putCharsAt_cd4e5 69 = .ok (.athrow, 1) := by decide +kernel
theorem dJ2_putCharsAt_cd4e5_70 : decode cJ2_putCharsAt_cd4e5 70 = .ok (.iload 6, 2) := by decide +kernel
theorem dJ2_putCharsAt_cd4e5_72 : decode cJ2_putCharsAt_cd4e5 72 = .ok (.ireturn, 1) := by decide +kernel
theorem dJ2_inflate_0e8fd_0 : decode cJ2_inflate_0e8fd 0 = .ok (.iload_n 3, 1) := by decide +kernel
theorem dJ2_inflate_0e8fd_1 : decode cJ2_inflate_0e8fd 1 = .ok (.iload 4, 2) := by decide +kernel
theorem dJ2_inflate_0e8fd_3 : decode cJ2_inflate_0e8fd 3 = .ok (.aload_n 2, 1) := by decide +kernel
theorem dJ2_inflate_0e8fd_4 : decode cJ2_inflate_0e8fd 4 = .ok (.invokestatic 173, 3) := by decide +kernel
theorem dJ2_inflate_0e8fd_7 : decode cJ2_inflate_0e8fd 7 = .ok (.iconst 0, 1) := by decide +kernel
theorem dJ2_inflate_0e8fd_8 : decode cJ2_inflate_0e8fd 8 = .ok (.istore 5, 2) := by decide +kernel
theorem dJ2_inflate_0e8fd_10 : decode cJ2_inflate_0e8fd 10 = .ok (.iload 5, 2) := by decide +kernel
theorem dJ2_inflate_0e8fd_12 : decode cJ2_inflate_0e8fd 12 = .ok (.iload 4, 2) := by decide +kernel
theorem dJ2_inflate_0e8fd_14 : decode cJ2_inflate_0e8fd 14 = .ok (.if_icmp .ge 27, 3) := by decide +kernel
theorem dJ2_inflate_0e8fd_17 : decode cJ2_inflate_0e8fd 17 = .ok (.aload_n 2, 1) := by decide +kernel
theorem dJ2_inflate_0e8fd_18 : decode cJ2_inflate_0e8fd 18 = .ok (.iload_n 3, 1) := by decide +kernel
theorem dJ2_inflate_0e8fd_19 : decode cJ2_inflate_0e8fd 19 = .ok (.iinc 3 1, 3) := by decide +kernel
theorem dJ2_inflate_0e8fd_22 : decode cJ2_inflate_0e8fd 22 = .ok (.aload_n 0, 1) := by decide +kernel
theorem dJ2_inflate_0e8fd_23 : decode cJ2_inflate_0e8fd 23 = .ok (.iload_n 1, 1) := by decide +kernel
theorem dJ2_inflate_0e8fd_24 : decode cJ2_inflate_0e8fd 24 = .ok (.iinc 1 1, 3) := by decide +kernel
theorem dJ2_inflate_0e8fd_27 : decode cJ2_inflate_0e8fd 27 = .ok (.baload, 1) := by decide +kernel
theorem dJ2_inflate_0e8fd_28 : decode cJ2_inflate_0e8fd 28 = .ok (.sipush 255, 3) := by decide +kernel
theorem dJ2_inflate_0e8fd_31 : decode cJ2_inflate_0e8fd 31 = .ok (.iand, 1) := by decide +kernel
theorem dJ2_inflate_0e8fd_32 : decode cJ2_inflate_0e8fd 32 = .ok (.invokestatic 111, 3) := by decide +kernel
theorem dJ2_inflate_0e8fd_35 : decode cJ2_inflate_0e8fd 35 = .ok (.iinc 5 1, 3) := by decide +kernel
theorem dJ2_inflate_0e8fd_38 : decode cJ2_inflate_0e8fd 38 = .ok (.goto (-28), 3) := by decide +kernel
theorem dJ2_inflate_0e8fd_41 : decode cJ2_inflate_0e8fd 41 = .ok (.return_, 1) := by decide +kernel
theorem dJ2_getChars_ba4f3_0 : decode cJ2_getChars_ba4f3 0 = .ok (.iload_n 1, 1) := by decide +kernel
theorem dJ2_getChars_ba4f3_1 : decode cJ2_getChars_ba4f3 1 = .ok (.istore 5, 2) := by decide +kernel
theorem dJ2_getChars_ba4f3_3 : decode cJ2_getChars_ba4f3 3 = .ok (.iload_n 0, 1) := by decide +kernel
theorem dJ2_getChars_ba4f3_4 : decode cJ2_getChars_ba4f3 4 = .ok (.ifCond .ge 7, 3) := by decide +kernel
theorem dJ2_getChars_ba4f3_7 : decode cJ2_getChars_ba4f3 7 = .ok (.iconst 1, 1) := by decide +kernel
theorem dJ2_getChars_ba4f3_8 : decode cJ2_getChars_ba4f3 8 = .ok (.goto 4, 3) := by decide +kernel
theorem dJ2_getChars_ba4f3_11 : decode cJ2_getChars_ba4f3 11 = .ok (.iconst 0, 1) := by decide +kernel
theorem dJ2_getChars_ba4f3_12 : decode cJ2_getChars_ba4f3 12 = .ok (.istore 6, 2) := by decide +kernel
theorem dJ2_getChars_ba4f3_14 : decode cJ2_getChars_ba4f3 14 = .ok (.iload 6, 2) := by decide +kernel
theorem dJ2_getChars_ba4f3_16 : decode cJ2_getChars_ba4f3 16 = .ok (.ifCond .ne 6, 3) := by decide +kernel
theorem dJ2_getChars_ba4f3_19 : decode cJ2_getChars_ba4f3 19 = .ok (.iload_n 0, 1) := by decide +kernel
theorem dJ2_getChars_ba4f3_20 : decode cJ2_getChars_ba4f3 20 = .ok (.ineg, 1) := by decide +kernel
theorem dJ2_getChars_ba4f3_21 : decode cJ2_getChars_ba4f3 21 = .ok (.istore_n 0, 1) := by decide +kernel
theorem dJ2_getChars_ba4f3_22 : decode cJ2_getChars_ba4f3 22 = .ok (.iload_n 0, 1) := by decide +kernel
theorem dJ2_getChars_ba4f3_23 : decode cJ2_getChars_ba4f3 23 = .ok (.bipush (-100), 2) := by decide +kernel
theorem dJ2_getChars_ba4f3_25 : decode cJ2_getChars_ba4f3 25 = .ok (.if_icmp .gt 51, 3) := by decide +kernel
theorem dJ2_getChars_ba4f3_28 : decode cJ2_getChars_ba4f3 28 = .ok (.iload_n 0, 1) := by decide +kernel
theorem dJ2_getChars_ba4f3_29 : decode cJ2_getChars_ba4f3 29 = .ok (.bipush 100, 2) := by decide +kernel
theorem dJ2_getChars_ba4f3_31 : decode cJ2_getChars_ba4f3 31 = .ok (.idiv, 1) := by decide +kernel
theorem dJ2_getChars_ba4f3_32 : decode cJ2_getChars_ba4f3 32 = .ok (.istore_n 3, 1) := by decide +kernel
theorem dJ2_getChars_ba4f3_33 : decode cJ2_getChars_ba4f3 33 = .ok (.iload_n 3, 1) := by decide +kernel
theorem dJ2_getChars_ba4f3_34 : decode cJ2_getChars_ba4f3 34 = .ok (.bipush 100, 2) := by decide +kernel
theorem dJ2_getChars_ba4f3_36 : decode cJ2_getChars_ba4f3 36 = .ok (.imul, 1) := by decide +kernel
theorem dJ2_getChars_ba4f3_37 : decode cJ2_getChars_ba4f3 37 = .ok (.iload_n 0, 1) := by decide +kernel
theorem dJ2_getChars_ba4f3_38 : decode cJ2_getChars_ba4f3 38 = .ok (.isub, 1) := by decide +kernel
theorem dJ2_getChars_ba4f3_39 : decode cJ2_getChars_ba4f3 39 = .ok (.istore 4, 2) := by decide +kernel
theorem dJ2_getChars_ba4f3_41 : decode cJ2_getChars_ba4f3 41 = .ok (.iload_n 3, 1) := by decide +kernel
theorem dJ2_getChars_ba4f3_42 : decode cJ2_getChars_ba4f3 42 = .ok (.istore_n 0, 1) := by decide +kernel
theorem dJ2_getChars_ba4f3_43 : decode cJ2_getChars_ba4f3 43 = .ok (.aload_n 2, 1) := by decide +kernel
theorem dJ2_getChars_ba4f3_44 : decode cJ2_getChars_ba4f3 44 = .ok (.iinc 5 (-1), 3) := by decide +kernel
theorem dJ2_getChars_ba4f3_47 : decode cJ2_getChars_ba4f3 47 = .ok (.iload 5, 2) := by decide +kernel
theorem dJ2_getChars_ba4f3_49 : decode cJ2_getChars_ba4f3 49 = .ok (.getstatic 403, 3) := by decide +kernel
theorem dJ2_getChars_ba4f3_52 : decode cJ2_getChars_ba4f3 52 = .ok (.iload 4, 2) := by decide +kernel
theorem dJ2_getChars_ba4f3_54 : decode cJ2_getChars_ba4f3 54 = .ok (.baload, 1) := by decide +kernel
theorem dJ2_getChars_ba4f3_55 : decode cJ2_getChars_ba4f3 55 = .ok (.invokestatic 111, 3) := by decide +kernel
theorem dJ2_getChars_ba4f3_58 : decode cJ2_getChars_ba4f3 58 = .ok (.aload_n 2, 1) := by decide +kernel
theorem dJ2_getChars_ba4f3_59 : decode cJ2_getChars_ba4f3 59 = .ok (.iinc 5 (-1), 3) := by decide +kernel
theorem dJ2_getChars_ba4f3_62 : decode cJ2_getChars_ba4f3 62 = .ok (.iload 5, 2) := by decide +kernel
theorem dJ2_getChars_ba4f3_64 : decode cJ2_getChars_ba4f3 64 = .ok (.getstatic 407, 3) := by decide +kernel
theorem dJ2_getChars_ba4f3_67 : decode cJ2_getChars_ba4f3 67 = .ok (.iload 4, 2) := by decide +kernel
theorem dJ2_getChars_ba4f3_69 : decode cJ2_getChars_ba4f3 69 = .ok (.baload, 1) := by decide +kernel
theorem dJ2_getChars_ba4f3_70 : decode cJ2_getChars_ba4f3 70 = .ok (.invokestatic 111, 3) := by decide +kernel
theorem dJ2_getChars_ba4f3_73 : decode cJ2_getChars_ba4f3 73 = .ok (.goto (-51), 3) := by decide +kernel
theorem dJ2_getChars_ba4f3_76 : decode cJ2_getChars_ba4f3 76 = .ok (.aload_n 2, 1) := by decide +kernel
theorem dJ2_getChars_ba4f3_77 : decode cJ2_getChars_ba4f3 77 = .ok (.iinc 5 (-1), 3) := by decide +kernel
theorem dJ2_getChars_ba4f3_80 : decode cJ2_getChars_ba4f3 80 = .ok (.iload 5, 2) := by decide +kernel
theorem dJ2_getChars_ba4f3_82 : decode cJ2_getChars_ba4f3 82 = .ok (.getstatic 403, 3) := by decide +kernel
theorem dJ2_getChars_ba4f3_85 : decode cJ2_getChars_ba4f3 85 = .ok (.iload_n 0, 1) := by decide +kernel
theorem dJ2_getChars_ba4f3_86 : decode cJ2_getChars_ba4f3 86 = .ok (.ineg, 1) := by decide +kernel
theorem dJ2_getChars_ba4f3_87 : decode cJ2_getChars_ba4f3 87 = .ok (.baload, 1) := by decide +kernel
theorem dJ2_getChars_ba4f3_88 : decode cJ2_getChars_ba4f3 88 = .ok (.invokestatic 111, 3) := by decide +kernel
theorem dJ2_getChars_ba4f3_91 : decode cJ2_getChars_ba4f3 91 = .ok (.iload_n 0, 1) := by decide +kernel
theorem dJ2_getChars_ba4f3_92 : decode cJ2_getChars_ba4f3 92 = .ok (.bipush (-9), 2) := by decide +kernel
theorem dJ2_getChars_ba4f3_94 : decode cJ2_getChars_ba4f3 94 = .ok (.if_icmp .ge 18, 3) := by decide +kernel
theorem dJ2_getChars_ba4f3_97 : decode cJ2_getChars_ba4f3 97 = .ok (.aload_n 2, 1) := by decide +kernel
theorem dJ2_getChars_ba4f3_98 : decode cJ2_getChars_ba4f3 98 = .ok (.iinc 5 (-1), 3) := by decide +kernel
theorem dJ2_getChars_ba4f3_101 : decode cJ2_getChars_ba4f3 101 = .ok (.iload 5, 2) := by decide +kernel
theorem dJ2_getChars_ba4f3_103 : decode cJ2_getChars_ba4f3 103 = .ok (.getstatic 407, 3) := by decide +kernel
theorem dJ2_getChars_ba4f3_106 : decode cJ2_getChars_ba4f3 106 = .ok (.iload_n 0, 1) := by decide +kernel
theorem dJ2_getChars_ba4f3_107 : decode cJ2_getChars_ba4f3 107 = .ok (.ineg, 1) := by decide +kernel
theorem dJ2_getChars_ba4f3_108 : decode cJ2_getChars_ba4f3 108 = .ok (.baload, 1) := by decide +kernel
theorem dJ2_getChars_ba4f3_109 : decode cJ2_getChars_ba4f3 109 = .ok (.invokestatic 111, 3) := by decide +kernel
theorem dJ2_getChars_ba4f3_112 : decode cJ2_getChars_ba4f3 112 = .ok (.iload 6, 2) := by decide +kernel
theorem dJ2_getChars_ba4f3_114 : decode cJ2_getChars_ba4f3 114 = .ok (.ifCond .eq 14, 3) := by decide +kernel
theorem dJ2_getChars_ba4f3_117 : decode cJ2_getChars_ba4f3 117 = .ok (.aload_n 2, 1) := by decide +kernel
theorem dJ2_getChars_ba4f3_118 : decode cJ2_getChars_ba4f3 118 = .ok (.iinc 5 (-1), 3) := by decide +kernel
theorem dJ2_getChars_ba4f3_121 : decode cJ2_getChars_ba4f3 121 = .ok (.iload 5, 2) := by decide +kernel
theorem dJ2_getChars_ba4f3_123 : decode cJ2_getChars_ba4f3 123 = .ok (.bipush 45, 2) := by decide +kernel
theorem dJ2_getChars_ba4f3_125 : decode cJ2_getChars_ba4f3 125 = .ok (.invokestatic 111, 3) := by decide +kernel
theorem dJ2_getChars_ba4f3_128 : decode cJ2_getChars_ba4f3 128 = .ok (.iload 5, 2) := by decide +kernel
theorem dJ2_getChars_ba4f3_130 : decode cJ2_getChars_ba4f3 130 = .ok (.ireturn, 1) := by decide +kernel
theorem dJ2_checkIndex_2214a_0 : decode cJ2_checkIndex_2214a 0 = .ok (.iload_n 0, 1) := by decide +kernel
theorem dJ2_checkIndex_2214a_1 : decode cJ2_checkIndex_2214a 1 = .ok (.aload_n 1, 1) := by decide +kernel
theorem dJ2_checkIndex_2214a_2 : decode cJ2_checkIndex_2214a 2 = .ok (.invokestatic 48, 3) := by decide +kernel
theorem dJ2_checkIndex_2214a_5 : decode cJ2_checkIndex_2214a 5 = .ok (.invokestatic 414, 3) := by decide +kernel
theorem dJ2_checkIndex_2214a_8 : decode cJ2_checkIndex_2214a 8 = .ok (.return_, 1) := by decide +kernel
theorem dJ2_checkBoundsBeginEnd_d044e_0 : decode cJ2_checkBoundsBeginEnd_d044e 0 = .ok (.iload_n 0, 1) := by decide +kernel
theorem dJ2_checkBoundsBeginEnd_d044e_1 : decode cJ2_checkBoundsBeginEnd_d044e 1 = .ok (.iload_n 1, 1) := by decide +kernel
theorem dJ2_checkBoundsBeginEnd_d044e_2 : decode cJ2_checkBoundsBeginEnd_d044e 2 = .ok (.aload_n 2, 1) := by decide +kernel
theorem dJ2_checkBoundsBeginEnd_d044e_3 : decode cJ2_checkBoundsBeginEnd_d044e 3 = .ok (.invokestatic 48, 3) := by decide +kernel
theorem dJ2_checkBoundsBeginEnd_d044e_6 : decode cJ2_checkBoundsBeginEnd_d044e 6 = .ok (.invokestatic 241, 3) := by decide +kernel
theorem dJ2_checkBoundsBeginEnd_d044e_9 : decode cJ2_checkBoundsBeginEnd_d044e 9 = .ok (.return_, 1) := by decide +kernel
theorem dJ2_checkBoundsOffCount_d044e_0 : decode cJ2_checkBoundsOffCount_d044e 0 = .ok (.iload_n 0, 1) := by decide +kernel
theorem dJ2_checkBoundsOffCount_d044e_1 : decode cJ2_checkBoundsOffCount_d044e 1 = .ok (.iload_n 1, 1) := by decide +kernel
theorem dJ2_checkBoundsOffCount_d044e_2 : decode cJ2_checkBoundsOffCount_d044e 2 = .ok (.aload_n 2, 1) := by decide +kernel
theorem dJ2_checkBoundsOffCount_d044e_3 : decode cJ2_checkBoundsOffCount_d044e 3 = .ok (.invokestatic 48, 3) := by decide +kernel
theorem dJ2_checkBoundsOffCount_d044e_6 : decode cJ2_checkBoundsOffCount_d044e 6 = .ok (.invokestatic 419, 3) := by decide +kernel
theorem dJ2_checkBoundsOffCount_d044e_9 : decode cJ2_checkBoundsOffCount_d044e 9 = .ok (.pop, 1) := by decide +kernel
theorem dJ2_checkBoundsOffCount_d044e_10 : decode cJ2_checkBoundsOffCount_d044e 10 = .ok (.return_, 1) := by decide +kernel
theorem dJ7_rangeCheck_23922_0 : decode cJ7_rangeCheck_23922 0 = .ok (.iload_n 1, 1) := by decide +kernel
theorem dJ7_rangeCheck_23922_1 : decode cJ7_rangeCheck_23922 1 = .ok (.iload_n 2, 1) := by decide +kernel
theorem dJ7_rangeCheck_23922_2 : decode cJ7_rangeCheck_23922 2 = .ok (.if_icmp .le 44, 3) := by decide +kernel
theorem dJ7_rangeCheck_23922_5 : decode cJ7_rangeCheck_23922 5 = .ok (.new 43, 3) := by decide +kernel
theorem dJ7_rangeCheck_23922_8 : decode cJ7_rangeCheck_23922 8 = .ok (.dup, 1) := by decide +kernel
theorem dJ7_rangeCheck_23922_9 : decode cJ7_rangeCheck_23922 9 = .ok (.new 45, 3) := by decide +kernel
theorem dJ7_rangeCheck_23922_12 : decode cJ7_rangeCheck_23922 12 = .ok (.dup, 1) := by decide +kernel
theorem dJ7_rangeCheck_23922_13 : decode cJ7_rangeCheck_23922 13 = .ok (.invokespecial 47, 3) := by decide +kernel
theorem dJ7_rangeCheck_23922_16 : decode cJ7_rangeCheck_23922 16 = .ok (.ldc 48, 2) := by decide +kernel
theorem dJ7_rangeCheck_23922_18 : decode cJ7_rangeCheck_23922 18 = .ok (.invokevirtual 50, 3) := by decide +kernel
theorem dJ7_rangeCheck_23922_21 : decode cJ7_rangeCheck_23922 21 = .ok (.iload_n 1, 1) := by decide +kernel
theorem dJ7_rangeCheck_23922_22 : decode cJ7_rangeCheck_23922 22 = .ok (.invokevirtual 54, 3) := by decide +kernel
theorem dJ7_rangeCheck_23922_25 : decode cJ7_rangeCheck_23922 25 = .ok (.ldc 57, 2) := by decide +kernel
theorem dJ7_rangeCheck_23922_27 : decode cJ7_rangeCheck_23922 27 = .ok (.invokevirtual 50, 3) := by decide +kernel
theorem dJ7_rangeCheck_23922_30 : decode cJ7_rangeCheck_23922 30 = .ok (.iload_n 2, 1) := by decide +kernel
theorem dJ7_rangeCheck_23922_31 : decode cJ7_rangeCheck_23922 31 = .ok (.invokevirtual 54, 3) := by decide +kernel
theorem dJ7_rangeCheck_23922_34 : decode cJ7_rangeCheck_23922 34 = .ok (.ldc 59, 2) := by decide +kernel
theorem dJ7_rangeCheck_23922_36 : decode cJ7_rangeCheck_23922 36 = .ok (.invokevirtual 50, 3) := by decide +kernel
theorem dJ7_rangeCheck_23922_39 : decode cJ7_rangeCheck_23922 39 = .ok (.invokevirtual 61, 3) := by decide +kernel
theorem dJ7_rangeCheck_23922_42 : decode cJ7_rangeCheck_23922 42 = .ok (.invokespecial 65, 3) := by decide +kernel
theorem dJ7_rangeCheck_23922_45 : decode cJ7_rangeCheck_23922 45 = .ok (.athrow, 1) := by decide +kernel
theorem dJ7_rangeCheck_23922_46 : decode cJ7_rangeCheck_23922 46 = .ok (.iload_n 1, 1) := by decide +kernel
theorem dJ7_rangeCheck_23922_47 : decode cJ7_rangeCheck_23922 47 = .ok (.ifCond .ge 12, 3) := by decide +kernel
theorem dJ7_rangeCheck_23922_50 : decode cJ7_rangeCheck_23922 50 = .ok (.new 68, 3) := by decide +kernel
theorem dJ7_rangeCheck_23922_53 : decode cJ7_rangeCheck_23922 53 = .ok (.dup, 1) := by decide +kernel
theorem dJ7_rangeCheck_23922_54 : decode cJ7_rangeCheck_23922 54 = .ok (.iload_n 1, 1) := by decide +kernel
theorem dJ7_rangeCheck_23922_55 : decode cJ7_rangeCheck_23922 55 = .ok (.invokespecial 70, 3) := by decide +kernel
theorem dJ7_rangeCheck_23922_58 : decode cJ7_rangeCheck_23922 58 = .ok (.athrow, 1) := by decide +kernel
theorem dJ7_rangeCheck_23922_59 : decode cJ7_rangeCheck_23922 59 = .ok (.iload_n 2, 1) := by decide +kernel
theorem dJ7_rangeCheck_23922_60 : decode cJ7_rangeCheck_23922 60 = .ok (.iload_n 0, 1) := by decide +kernel
theorem dJ7_rangeCheck_23922_61 : decode cJ7_rangeCheck_23922 61 = .ok (.if_icmp .le 12, 3) := by decide +kernel
theorem dJ7_rangeCheck_23922_64 : decode cJ7_rangeCheck_23922 64 = .ok (.new 68, 3) := by decide +kernel
theorem dJ7_rangeCheck_23922_67 : decode cJ7_rangeCheck_23922 67 = .ok (.dup, 1) := by decide +kernel
theorem dJ7_rangeCheck_23922_68 : decode cJ7_rangeCheck_23922 68 = .ok (.iload_n 2, 1) := by decide +kernel
theorem dJ7_rangeCheck_23922_69 : decode cJ7_rangeCheck_23922 69 = .ok (.invokespecial 70, 3) := by decide +kernel
theorem dJ7_rangeCheck_23922_72 : decode cJ7_rangeCheck_23922 72 = .ok (.athrow, 1) := by decide +kernel
theorem dJ7_rangeCheck_23922_73 : decode cJ7_rangeCheck_23922 73 = .ok (.return_, 1) := by decide +kernel
theorem dJ7_fill_53178_0 : decode cJ7_fill_53178 0 = .ok (.iconst 0, 1) := by decide +kernel
theorem dJ7_fill_53178_1 : decode cJ7_fill_53178 1 = .ok (.istore_n 2, 1) := by decide +kernel
theorem dJ7_fill_53178_2 : decode cJ7_fill_53178 2 = .ok (.aload_n 0, 1) := by decide +kernel
theorem dJ7_fill_53178_3 : decode cJ7_fill_53178 3 = .ok (.arraylength, 1) := by decide +kernel
theorem dJ7_fill_53178_4 : decode cJ7_fill_53178 4 = .ok (.istore_n 3, 1) := by decide +kernel
theorem dJ7_fill_53178_5 : decode cJ7_fill_53178 5 = .ok (.iload_n 2, 1) := by decide +kernel
theorem dJ7_fill_53178_6 : decode cJ7_fill_53178 6 = .ok (.iload_n 3, 1) := by decide +kernel
theorem dJ7_fill_53178_7 : decode cJ7_fill_53178 7 = .ok (.if_icmp .ge 13, 3) := by decide +kernel
theorem dJ7_fill_53178_10 : decode cJ7_fill_53178 10 = .ok (.aload_n 0, 1) := by decide +kernel
theorem dJ7_fill_53178_11 : decode cJ7_fill_53178 11 = .ok (.iload_n 2, 1) := by decide +kernel
theorem dJ7_fill_53178_12 : decode cJ7_fill_53178 12 = .ok (.iload_n 1, 1) := by decide +kernel
theorem dJ7_fill_53178_13 : decode cJ7_fill_53178 13 = .ok (.iastore, 1) := by decide +kernel
theorem dJ7_fill_53178_14 : decode cJ7_fill_53178 14 = .ok (.iinc 2 1, 3) := by decide +kernel
theorem dJ7_fill_53178_17 : decode cJ7_fill_53178 17 = .ok (.goto (-12), 3) := by decide +kernel
theorem dJ7_fill_53178_20 : decode cJ7_fill_53178 20 = .ok (.return_, 1) := by decide +kernel
theorem dJ7_fill_eb02e_0 : decode cJ7_fill_eb02e 0 = .ok (.aload_n 0, 1) := by decide +kernel
theorem dJ7_fill_eb02e_1 : decode cJ7_fill_eb02e 1 = .ok (.arraylength, 1) := by decide +kernel
theorem dJ7_fill_eb02e_2 : decode cJ7_fill_eb02e 2 = .ok (.iload_n 1, 1) := by decide +kernel
theorem dJ7_fill_eb02e_3 : decode cJ7_fill_eb02e 3 = .ok (.iload_n 2, 1) := by decide +kernel
theorem dJ7_fill_eb02e_4 : decode cJ7_fill_eb02e 4 = .ok (.invokestatic 13, 3) := by decide +kernel
theorem dJ7_fill_eb02e_7 : decode cJ7_fill_eb02e 7 = .ok (.iload_n 1, 1) := by decide +kernel
theorem dJ7_fill_eb02e_8 : decode cJ7_fill_eb02e 8 = .ok (.istore 4, 2) := by decide +kernel
theorem dJ7_fill_eb02e_10 : decode cJ7_fill_eb02e 10 = .ok (.iload 4, 2) := by decide +kernel
theorem dJ7_fill_eb02e_12 : decode cJ7_fill_eb02e 12 = .ok (.iload_n 2, 1) := by decide +kernel
theorem dJ7_fill_eb02e_13 : decode cJ7_fill_eb02e 13 = .ok (.if_icmp .ge 14, 3) := by decide +kernel
theorem dJ7_fill_eb02e_16 : decode cJ7_fill_eb02e 16 = .ok (.aload_n 0, 1) := by decide +kernel
theorem dJ7_fill_eb02e_17 : decode cJ7_fill_eb02e 17 = .ok (.iload 4, 2) := by decide +kernel
theorem dJ7_fill_eb02e_19 : decode cJ7_fill_eb02e 19 = .ok (.iload_n 3, 1) := by decide +kernel
theorem dJ7_fill_eb02e_20 : decode cJ7_fill_eb02e 20 = .ok (.bastore, 1) := by decide +kernel
theorem dJ7_fill_eb02e_21 : decode cJ7_fill_eb02e 21 = .ok (.iinc 4 1, 3) := by decide +kernel
theorem dJ7_fill_eb02e_24 : decode cJ7_fill_eb02e 24 = .ok (.goto (-14), 3) := by decide +kernel
theorem dJ7_fill_eb02e_27 : decode cJ7_fill_eb02e 27 = .ok (.return_, 1) := by decide +kernel
theorem dJ7_copyOf_9075b_0 : decode cJ7_copyOf_9075b 0 = .ok (.iload_n 1, 1) := by decide +kernel
theorem dJ7_copyOf_9075b_1 : decode cJ7_copyOf_9075b 1 = .ok (.aload_n 0, 1) := by decide +kernel
theorem dJ7_copyOf_9075b_2 : decode cJ7_copyOf_9075b 2 = .ok (.arraylength, 1) := by decide +kernel
theorem dJ7_copyOf_9075b_3 : decode cJ7_copyOf_9075b 3 = .ok (.if_icmp .ne 11, 3) := by decide +kernel
theorem dJ7_copyOf_9075b_6 : decode cJ7_copyOf_9075b 6 = .ok (.aload_n 0, 1) := by decide +kernel
theorem dJ7_copyOf_9075b_7 : decode cJ7_copyOf_9075b 7 = .ok (.invokevirtual 310, 3) := by decide +kernel
theorem dJ7_copyOf_9075b_10 : decode cJ7_copyOf_9075b 10 = .ok (.checkcast 311, 3) := by decide +kernel
theorem dJ7_copyOf_9075b_13 : decode cJ7_copyOf_9075b 13 = .ok (.areturn, 1) := by decide +kernel
theorem dJ7_copyOf_9075b_14 : decode cJ7_copyOf_9075b 14 = .ok (.iload_n 1, 1) := by decide +kernel
theorem dJ7_copyOf_9075b_15 : decode cJ7_copyOf_9075b 15 = .ok (.newarray .byte, 2) := by decide +kernel
theorem dJ7_copyOf_9075b_17 : decode cJ7_copyOf_9075b 17 = .ok (.astore_n 2, 1) := by decide +kernel
theorem dJ7_copyOf_9075b_18 : decode cJ7_copyOf_9075b 18 = .ok (.aload_n 0, 1) := by decide +kernel
theorem dJ7_copyOf_9075b_19 : decode cJ7_copyOf_9075b 19 = .ok (.iconst 0, 1) := by decide +kernel
theorem dJ7_copyOf_9075b_20 : decode cJ7_copyOf_9075b 20 = .ok (.aload_n 2, 1) := by decide +kernel
theorem dJ7_copyOf_9075b_21 : decode cJ7_copyOf_9075b 21 = .ok (.iconst 0, 1) := by decide +kernel
theorem dJ7_copyOf_9075b_22 : decode cJ7_copyOf_9075b 22 = .ok (.aload_n 0, 1) := by decide +kernel
theorem dJ7_copyOf_9075b_23 : decode cJ7_copyOf_9075b 23 = .ok (.arraylength, 1) := by decide +kernel
theorem dJ7_copyOf_9075b_24 : decode cJ7_copyOf_9075b 24 = .ok (.iload_n 1, 1) := by decide +kernel
theorem dJ7_copyOf_9075b_25 : decode cJ7_copyOf_9075b 25 = .ok (.invokestatic 304, 3) := by decide +kernel
theorem dJ7_copyOf_9075b_28 : decode cJ7_copyOf_9075b 28 = .ok (.invokestatic 150, 3) := by decide +kernel
theorem dJ7_copyOf_9075b_31 : decode cJ7_copyOf_9075b 31 = .ok (.aload_n 2, 1) := by decide +kernel
theorem dJ7_copyOf_9075b_32 : decode cJ7_copyOf_9075b 32 = .ok (.areturn, 1) := by decide +kernel
theorem dJ7_checkLength_df160_0 : decode cJ7_checkLength_df160 0 = .ok (.iload_n 1, 1) := by decide +kernel
theorem dJ7_checkLength_df160_1 : decode cJ7_checkLength_df160 1 = .ok (.iload_n 0, 1) := by decide +kernel
theorem dJ7_checkLength_df160_2 : decode cJ7_checkLength_df160 2 = .ok (.if_icmp .ge 35, 3) := by decide +kernel
theorem dJ7_checkLength_df160_5 : decode cJ7_checkLength_df160 5 = .ok (.new 43, 3) := by decide +kernel
theorem dJ7_checkLength_df160_8 : decode cJ7_checkLength_df160 8 = .ok (.dup, 1) := by decide +kernel
theorem dJ7_checkLength_df160_9 : decode cJ7_checkLength_df160 9 = .ok (.new 45, 3) := by decide +kernel
theorem dJ7_checkLength_df160_12 : decode cJ7_checkLength_df160 12 = .ok (.dup, 1) := by decide +kernel
theorem dJ7_checkLength_df160_13 : decode cJ7_checkLength_df160 13 = .ok (.invokespecial 47, 3) := by decide +kernel
theorem dJ7_checkLength_df160_16 : decode cJ7_checkLength_df160 16 = .ok (.iload_n 0, 1) := by decide +kernel
theorem dJ7_checkLength_df160_17 : decode cJ7_checkLength_df160 17 = .ok (.invokevirtual 54, 3) := by decide +kernel
theorem dJ7_checkLength_df160_20 : decode cJ7_checkLength_df160 20 = .ok (.ldc_w 337, 3) := by decide +kernel
theorem dJ7_checkLength_df160_23 : decode cJ7_checkLength_df160 23 = .ok (.invokevirtual 50, 3) := by decide +kernel
theorem dJ7_checkLength_df160_26 : decode cJ7_checkLength_df160 26 = .ok (.iload_n 1, 1) := by decide +kernel
theorem dJ7_checkLength_df160_27 : decode cJ7_checkLength_df160 27 = .ok (.invokevirtual 54, 3) := by decide +kernel
theorem dJ7_checkLength_df160_30 : decode cJ7_checkLength_df160 30 = .ok (.invokevirtual 61, 3) := by decide +kernel
theorem dJ7_checkLength_df160_33 : decode cJ7_checkLength_df160 33 = .ok (.invokespecial 65, 3) := by decide +kernel
theorem dJ7_checkLength_df160_36 : decode cJ7_checkLength_df160 36 = .ok (.athrow, 1) := by decide +kernel
theorem dJ7_checkLength_df160_37 : decode cJ7_checkLength_df160 37 = .ok (.return_, 1) := by decide +kernel
theorem dJ7_copyOfRange_39247_0 : decode cJ7_copyOfRange_39247 0 = .ok (.iload_n 1, 1) := by decide +kernel
theorem dJ7_copyOfRange_39247_1 : decode cJ7_copyOfRange_39247 1 = .ok (.ifCond .ne 9, 3) := by decide +kernel
theorem dJ7_copyOfRange_39247_4 : decode cJ7_copyOfRange_39247 4 = .ok (.iload_n 2, 1) := by decide +kernel
theorem dJ7_copyOfRange_39247_5 : decode cJ7_copyOfRange_39247 5 = .ok (.aload_n 0, 1) := by decide +kernel
theorem dJ7_copyOfRange_39247_6 : decode cJ7_copyOfRange_39247 6 = .ok (.arraylength, 1) := by decide +kernel
theorem dJ7_copyOfRange_39247_7 : decode cJ7_copyOfRange_39247 7 = .ok (.if_icmp .eq 10, 3) := by decide +kernel
theorem dJ7_copyOfRange_39247_10 : decode cJ7_copyOfRange_39247 10 = .ok (.aload_n 0, 1) := by decide +kernel
theorem dJ7_copyOfRange_39247_11 : decode cJ7_copyOfRange_39247 11 = .ok (.iload_n 1, 1) := by decide +kernel
theorem dJ7_copyOfRange_39247_12 : decode cJ7_copyOfRange_39247 12 = .ok (.iload_n 2, 1) := by decide +kernel
theorem dJ7_copyOfRange_39247_13 : decode cJ7_copyOfRange_39247 13 = .ok (.invokestatic 339, 3) := by decide +kernel
theorem dJ7_copyOfRange_39247_16 : decode cJ7_copyOfRange_39247 16 = .ok (.areturn, 1) := by decide +kernel
theorem dJ7_copyOfRange_39247_17 : decode cJ7_copyOfRange_39247 17 = .ok (.aload_n 0, 1) := by decide +kernel
theorem dJ7_copyOfRange_39247_18 : decode cJ7_copyOfRange_39247 18 = .ok (.invokevirtual 310, 3) := by decide +kernel
theorem dJ7_copyOfRange_39247_21 : decode cJ7_copyOfRange_39247 21 = .ok (.checkcast 311, 3) := by decide +kernel
theorem dJ7_copyOfRange_39247_24 : decode cJ7_copyOfRange_39247 24 = .ok (.areturn, 1) := by decide +kernel
theorem dJ7_copyOfRangeByte_39247_0 : decode cJ7_copyOfRangeByte_39247 0 = .ok (.iload_n 1, 1) := by decide +kernel
theorem dJ7_copyOfRangeByte_39247_1 : decode cJ7_copyOfRangeByte_39247 1 = .ok (.iload_n 2, 1) := by decide +kernel
theorem dJ7_copyOfRangeByte_39247_2 : decode cJ7_copyOfRangeByte_39247 2 = .ok (.invokestatic 343, 3) := by decide +kernel
theorem dJ7_copyOfRangeByte_39247_5 : decode cJ7_copyOfRangeByte_39247 5 = .ok (.iload_n 2, 1) := by decide +kernel
theorem dJ7_copyOfRangeByte_39247_6 : decode cJ7_copyOfRangeByte_39247 6 = .ok (.iload_n 1, 1) := by decide +kernel
theorem dJ7_copyOfRangeByte_39247_7 : decode cJ7_copyOfRangeByte_39247 7 = .ok (.isub, 1) := by decide +kernel
theorem dJ7_copyOfRangeByte_39247_8 : decode cJ7_copyOfRangeByte_39247 8 = .ok (.istore_n 3, 1) := by decide +kernel
theorem dJ7_copyOfRangeByte_39247_9 : decode cJ7_copyOfRangeByte_39247 9 = .ok (.iload_n 3, 1) := by decide +kernel
theorem dJ7_copyOfRangeByte_39247_10 : decode cJ7_copyOfRangeByte_39247 10 = .ok (.newarray .byte, 2) := by decide +kernel
theorem dJ7_copyOfRangeByte_39247_12 : decode cJ7_copyOfRangeByte_39247 12 = .ok (.astore 4, 2) := by decide +kernel
theorem dJ7_copyOfRangeByte_39247_14 : decode cJ7_copyOfRangeByte_39247 14 = .ok (.aload_n 0, 1) := by decide +kernel
theorem dJ7_copyOfRangeByte_39247_15 : decode cJ7_copyOfRangeByte_39247 15 = .ok (.iload_n 1, 1) := by decide +kernel
theorem dJ7_copyOfRangeByte_39247_16 : decode cJ7_copyOfRangeByte_39247 16 = .ok (.aload 4, 2) := by decide +kernel
theorem dJ7_copyOfRangeByte_39247_18 : decode cJ7_copyOfRangeByte_39247 18 = .ok (.iconst 0, 1) := by decide +kernel
theorem dJ7_copyOfRangeByte_39247_19 : decode cJ7_copyOfRangeByte_39247 19 = .ok (.aload_n 0, 1) := by decide +kernel
theorem dJ7_copyOfRangeByte_39247_20 : decode cJ7_copyOfRangeByte_39247 20 = .ok (.arraylength, 1) := by decide +kernel
theorem dJ7_copyOfRangeByte_39247_21 : decode cJ7_copyOfRangeByte_39247 21 = .ok (.iload_n 1, 1) := by decide +kernel
theorem dJ7_copyOfRangeByte_39247_22 : decode cJ7_copyOfRangeByte_39247 22 = .ok (.isub, 1) := by decide +kernel
theorem dJ7_copyOfRangeByte_39247_23 : decode cJ7_copyOfRangeByte_39247 23 = .ok (.iload_n 3, 1) := by decide +kernel
theorem dJ7_copyOfRangeByte_39247_24 : decode cJ7_copyOfRangeByte_39247 24 = .ok (.invokestatic 304, 3) := by decide +kernel
theorem dJ7_copyOfRangeByte_39247_27 : decode cJ7_copyOfRangeByte_39247 27 = .ok (.invokestatic 150, 3) := by decide +kernel
theorem dJ7_copyOfRangeByte_39247_30 : decode cJ7_copyOfRangeByte_39247 30 = .ok (.aload 4, 2) := by decide +kernel
theorem dJ7_copyOfRangeByte_39247_32 : decode cJ7_copyOfRangeByte_39247 32 = .ok (.areturn, 1) := by decide +kernel
theorem dJ8_newLength_cabcc_0 : decode cJ8_newLength_cabcc 0 = .ok (.iload_n 0, 1) := by decide +kernel
theorem dJ8_newLength_cabcc_1 : decode cJ8_newLength_cabcc 1 = .ok (.iload_n 1, 1) := by decide +kernel
theorem dJ8_newLength_cabcc_2 : decode cJ8_newLength_cabcc 2 = .ok (.iload_n 2, 1) := by decide +kernel
theorem dJ8_newLength_cabcc_3 : decode cJ8_newLength_cabcc 3 = .ok (.invokestatic 194, 3) := by decide +kernel
theorem dJ8_newLength_cabcc_6 : decode cJ8_newLength_cabcc 6 = .ok (.iadd, 1) := by decide +kernel
theorem dJ8_newLength_cabcc_7 : decode cJ8_newLength_cabcc 7 = .ok (.istore_n 3, 1) := by decide +kernel
theorem dJ8_newLength_cabcc_8 : decode cJ8_newLength_cabcc 8 = .ok (.iconst 0, 1) := by decide +kernel
theorem dJ8_newLength_cabcc_9 : decode cJ8_newLength_cabcc 9 = .ok (.iload_n 3, 1) := by decide +kernel
theorem dJ8_newLength_cabcc_10 : decode cJ8_newLength_cabcc 10 = .ok (.if_icmp .ge 11, 3) := by decide +kernel
theorem dJ8_newLength_cabcc_13 : decode cJ8_newLength_cabcc 13 = .ok (.iload_n 3, 1) := by decide +kernel
theorem dJ8_newLength_cabcc_14 : decode cJ8_newLength_cabcc 14 = .ok (.ldc 200, 2) := by decide +kernel
theorem dJ8_newLength_cabcc_16 : decode cJ8_newLength_cabcc 16 = .ok (.if_icmp .gt 5, 3) := by decide +kernel
theorem dJ8_newLength_cabcc_19 : decode cJ8_newLength_cabcc 19 = .ok (.iload_n 3, 1) := by decide +kernel
theorem dJ8_newLength_cabcc_20 : decode cJ8_newLength_cabcc 20 = .ok (.ireturn, 1) := by decide +kernel
theorem dJ8_newLength_cabcc_21 : decode cJ8_newLength_cabcc 21 = .ok (.iload_n 0, 1) := by decide +kernel
theorem dJ8_newLength_cabcc_22 : decode cJ8_newLength_cabcc 22 = .ok (.iload_n 1, 1) := by decide +kernel
theorem dJ8_newLength_cabcc_23 : decode cJ8_newLength_cabcc 23 = .ok (.invokestatic 201, 3) := by decide +kernel
theorem dJ8_newLength_cabcc_26 : decode cJ8_newLength_cabcc 26 = .ok (.ireturn, 1) := by decide +kernel
theorem dJ8_hugeLength_7cf53_0 : decode cJ8_hugeLength_7cf53 0 = .ok (.iload_n 0, 1) := by decide +kernel
theorem dJ8_hugeLength_7cf53_1 : decode cJ8_hugeLength_7cf53 1 = .ok (.iload_n 1, 1) := by decide +kernel
theorem dJ8_hugeLength_7cf53_2 : decode cJ8_hugeLength_7cf53 2 = .ok (.iadd, 1) := by decide +kernel
theorem dJ8_hugeLength_7cf53_3 : decode cJ8_hugeLength_7cf53 3 = .ok (.istore_n 2, 1) := by decide +kernel
theorem dJ8_hugeLength_7cf53_4 : decode cJ8_hugeLength_7cf53 4 = .ok (.iload_n 2, 1) := by decide +kernel
theorem dJ8_hugeLength_7cf53_5 : decode cJ8_hugeLength_7cf53 5 = .ok (.ifCond .ge 44, 3) := by decide +kernel
theorem dJ8_hugeLength_7cf53_8 : decode cJ8_hugeLength_7cf53 8 = .ok (.new 204, 3) := by decide +kernel
theorem dJ8_hugeLength_7cf53_11 : decode cJ8_hugeLength_7cf53 11 = .ok (.dup, 1) := by decide +kernel
theorem dJ8_hugeLength_7cf53_12 : decode cJ8_hugeLength_7cf53 12 = .ok (.new 89, 3) := by decide +kernel
theorem dJ8_hugeLength_7cf53_15 : decode cJ8_hugeLength_7cf53 15 = .ok (.dup, 1) := by decide +kernel
theorem dJ8_hugeLength_7cf53_16 : decode cJ8_hugeLength_7cf53 16 = .ok (.invokespecial 91, 3) := by decide +kernel
theorem dJ8_hugeLength_7cf53_19 : decode cJ8_hugeLength_7cf53 19 = .ok (.ldc 206, 2) := by decide +kernel
theorem dJ8_hugeLength_7cf53_21 : decode cJ8_hugeLength_7cf53 21 = .ok (.invokevirtual 94, 3) := by decide +kernel
theorem dJ8_hugeLength_7cf53_24 : decode cJ8_hugeLength_7cf53 24 = .ok (.iload_n 0, 1) := by decide +kernel
theorem dJ8_hugeLength_7cf53_25 : decode cJ8_hugeLength_7cf53 25 = .ok (.invokevirtual 98, 3) := by decide +kernel
theorem dJ8_hugeLength_7cf53_28 : decode cJ8_hugeLength_7cf53 28 = .ok (.ldc 208, 2) := by decide +kernel
theorem dJ8_hugeLength_7cf53_30 : decode cJ8_hugeLength_7cf53 30 = .ok (.invokevirtual 94, 3) := by decide +kernel
theorem dJ8_hugeLength_7cf53_33 : decode cJ8_hugeLength_7cf53 33 = .ok (.iload_n 1, 1) := by decide +kernel
theorem dJ8_hugeLength_7cf53_34 : decode cJ8_hugeLength_7cf53 34 = .ok (.invokevirtual 98, 3) := by decide +kernel
theorem dJ8_hugeLength_7cf53_37 : decode cJ8_hugeLength_7cf53 37 = .ok (.ldc 210, 2) := by decide +kernel
theorem dJ8_hugeLength_7cf53_39 : decode cJ8_hugeLength_7cf53 39 = .ok (.invokevirtual 94, 3) := by decide +kernel
theorem dJ8_hugeLength_7cf53_42 : decode cJ8_hugeLength_7cf53 42 = .ok (.invokevirtual 101, 3) := by decide +kernel
theorem dJ8_hugeLength_7cf53_45 : decode cJ8_hugeLength_7cf53 45 = .ok (.invokespecial 212, 3) := by decide +kernel
theorem dJ8_hugeLength_7cf53_48 : decode cJ8_hugeLength_7cf53 48 = .ok (.athrow, 1) := by decide +kernel
theorem dJ8_hugeLength_7cf53_49 : decode cJ8_hugeLength_7cf53 49 = .ok (.iload_n 2, 1) := by decide +kernel
theorem dJ8_hugeLength_7cf53_50 : decode cJ8_hugeLength_7cf53 50 = .ok (.ldc 200, 2) := by decide +kernel
theorem dJ8_hugeLength_7cf53_52 : decode cJ8_hugeLength_7cf53 52 = .ok (.if_icmp .gt 6, 3) := by decide +kernel
theorem dJ8_hugeLength_7cf53_55 : decode cJ8_hugeLength_7cf53 55 = .ok (.ldc 200, 2) := by decide +kernel
theorem dJ8_hugeLength_7cf53_57 : decode cJ8_hugeLength_7cf53 57 = .ok (.ireturn, 1) := by decide +kernel
theorem dJ8_hugeLength_7cf53_58 : decode cJ8_hugeLength_7cf53 58 = .ok (.iload_n 2, 1) := by decide +kernel
theorem dJ8_hugeLength_7cf53_59 : decode cJ8_hugeLength_7cf53 59 = .ok (.ireturn, 1) := by decide +kernel
theorem dJ3_checkIndex_8e157_0 : decode cJ3_checkIndex_8e157 0 = .ok (.iload_n 0, 1) := by decide +kernel
theorem dJ3_checkIndex_8e157_1 : decode cJ3_checkIndex_8e157 1 = .ok (.ifCond .lt 8, 3) := by decide +kernel
theorem dJ3_checkIndex_8e157_4 : decode cJ3_checkIndex_8e157 4 = .ok (.iload_n 0, 1) := by decide +kernel
theorem dJ3_checkIndex_8e157_5 : decode cJ3_checkIndex_8e157 5 = .ok (.iload_n 1, 1) := by decide +kernel
theorem dJ3_checkIndex_8e157_6 : decode cJ3_checkIndex_8e157 6 = .ok (.if_icmp .lt 10, 3) := by decide +kernel
theorem dJ3_checkIndex_8e157_9 : decode cJ3_checkIndex_8e157 9 = .ok (.aload_n 2, 1) := by decide +kernel
theorem dJ3_checkIndex_8e157_10 : decode cJ3_checkIndex_8e157 10 = .ok (.iload_n 0, 1) := by decide +kernel
theorem dJ3_checkIndex_8e157_11 : decode cJ3_checkIndex_8e157 11 = .ok (.iload_n 1, 1) := by decide +kernel
theorem dJ3_checkIndex_8e157_12 : decode cJ3_checkIndex_8e157 12 = .ok (.invokestatic 95, 3) := by decide +kernel
theorem dJ3_checkIndex_8e157_15 : decode cJ3_checkIndex_8e157 15 = .ok (.athrow, 1) := by decide +kernel
theorem dJ3_checkIndex_8e157_16 : decode cJ3_checkIndex_8e157 16 = .ok (.iload_n 0, 1) := by decide +kernel
theorem dJ3_checkIndex_8e157_17 : decode cJ3_checkIndex_8e157 17 = .ok (.ireturn, 1) := by decide +kernel
theorem dJ3_checkFromToIndex_8c36e_0 : decode cJ3_checkFromToIndex_8c36e 0 = .ok (.iload_n 0, 1) := by decide +kernel
theorem dJ3_checkFromToIndex_8c36e_1 : decode cJ3_checkFromToIndex_8c36e 1 = .ok (.ifCond .lt 13, 3) := by decide +kernel
theorem dJ3_checkFromToIndex_8c36e_4 : decode cJ3_checkFromToIndex_8c36e 4 = .ok (.iload_n 0, 1) := by decide +kernel
theorem dJ3_checkFromToIndex_8c36e_5 : decode cJ3_checkFromToIndex_8c36e 5 = .ok (.iload_n 1, 1) := by decide +kernel
theorem dJ3_checkFromToIndex_8c36e_6 : decode cJ3_checkFromToIndex_8c36e 6 = .ok (.if_icmp .gt 8, 3) := by decide +kernel
theorem dJ3_checkFromToIndex_8c36e_9 : decode cJ3_checkFromToIndex_8c36e 9 = .ok (.iload_n 1, 1) := by decide +kernel
theorem dJ3_checkFromToIndex_8c36e_10 : decode cJ3_checkFromToIndex_8c36e 10 = .ok (.iload_n 2, 1) := by decide +kernel
theorem dJ3_checkFromToIndex_8c36e_11 : decode cJ3_checkFromToIndex_8c36e 11 = .ok (.if_icmp .le 11, 3) := by decide +kernel
theorem dJ3_checkFromToIndex_8c36e_14 : decode cJ3_checkFromToIndex_8c36e 14 = .ok (.aload_n 3, 1) := by decide +kernel
theorem dJ3_checkFromToIndex_8c36e_15 : decode cJ3_checkFromToIndex_8c36e 15 = .ok (.iload_n 0, 1) := by decide +kernel
theorem dJ3_checkFromToIndex_8c36e_16 : decode cJ3_checkFromToIndex_8c36e 16 = .ok (.iload_n 1, 1) := by decide +kernel
theorem dJ3_checkFromToIndex_8c36e_17 : decode cJ3_checkFromToIndex_8c36e 17 = .ok (.iload_n 2, 1) := by decide +kernel
theorem dJ3_checkFromToIndex_8c36e_18 : decode cJ3_checkFromToIndex_8c36e 18 = .ok (.invokestatic 99, 3) := by decide +kernel
theorem dJ3_checkFromToIndex_8c36e_21 : decode cJ3_checkFromToIndex_8c36e 21 = .ok (.athrow, 1) := by decide +kernel
theorem dJ3_checkFromToIndex_8c36e_22 : decode cJ3_checkFromToIndex_8c36e 22 = .ok (.iload_n 0, 1) := by decide +kernel
theorem dJ3_checkFromToIndex_8c36e_23 : decode cJ3_checkFromToIndex_8c36e 23 = .ok (.ireturn, 1) := by decide +kernel
theorem dJ3_checkFromIndexSize_8c36e_0 : decode cJ3_checkFromIndexSize_8c36e 0 = .ok (.iload_n 2, 1) := by decide +kernel
theorem dJ3_checkFromIndexSize_8c36e_1 : decode cJ3_checkFromIndexSize_8c36e 1 = .ok (.iload_n 0, 1) := by decide +kernel
theorem dJ3_checkFromIndexSize_8c36e_2 : decode cJ3_checkFromIndexSize_8c36e 2 = .ok (.ior, 1) := by decide +kernel
theorem dJ3_checkFromIndexSize_8c36e_3 : decode cJ3_checkFromIndexSize_8c36e 3 = .ok (.iload_n 1, 1) := by decide +kernel
theorem dJ3_checkFromIndexSize_8c36e_4 : decode cJ3_checkFromIndexSize_8c36e 4 = .ok (.ior, 1) := by decide +kernel
theorem dJ3_checkFromIndexSize_8c36e_5 : decode cJ3_checkFromIndexSize_8c36e 5 = .ok (.ifCond .lt 10, 3) := by decide +kernel
theorem dJ3_checkFromIndexSize_8c36e_8 : decode cJ3_checkFromIndexSize_8c36e 8 = .ok (.iload_n 1, 1) := by decide +kernel
theorem dJ3_checkFromIndexSize_8c36e_9 : decode cJ3_checkFromIndexSize_8c36e 9 = .ok (.iload_n 2, 1) := by decide +kernel
theorem dJ3_checkFromIndexSize_8c36e_10 : decode cJ3_checkFromIndexSize_8c36e 10 = .ok (.iload_n 0, 1) := by decide +kernel
theorem dJ3_checkFromIndexSize_8c36e_11 : decode cJ3_checkFromIndexSize_8c36e 11 = .ok (.isub, 1) := by decide +kernel
theorem dJ3_checkFromIndexSize_8c36e_12 : decode cJ3_checkFromIndexSize_8c36e 12 = .ok (.if_icmp .le 11, 3) := by decide +kernel
theorem dJ3_checkFromIndexSize_8c36e_15 : decode cJ3_checkFromIndexSize_8c36e 15 = .ok (.aload_n 3, 1) := by decide +kernel
theorem dJ3_checkFromIndexSize_8c36e_16 : decode cJ3_checkFromIndexSize_8c36e 16 = .ok (.iload_n 0, 1) := by decide +kernel
theorem dJ3_checkFromIndexSize_8c36e_17 : decode cJ3_checkFromIndexSize_8c36e 17 = .ok (.iload_n 1, 1) := by decide +kernel
theorem dJ3_checkFromIndexSize_8c36e_18 : decode cJ3_checkFromIndexSize_8c36e 18 = .ok (.iload_n 2, 1) := by decide +kernel
theorem dJ3_checkFromIndexSize_8c36e_19 : decode cJ3_checkFromIndexSize_8c36e 19 = .ok (.invokestatic 103, 3) := by decide +kernel
theorem dJ3_checkFromIndexSize_8c36e_22 : decode cJ3_checkFromIndexSize_8c36e 22 = .ok (.athrow, 1) := by decide +kernel
theorem dJ3_checkFromIndexSize_8c36e_23 : decode cJ3_checkFromIndexSize_8c36e 23 = .ok (.iload_n 0, 1) := by decide +kernel
theorem dJ3_checkFromIndexSize_8c36e_24 : decode cJ3_checkFromIndexSize_8c36e 24 = .ok (.ireturn, 1) := by decide +kernel
end
section
/-! the tables' good words: one list for all methods -/
def UW : List Cond := lw_tbl.filter goodWord
theorem UW_good : ∀ w ∈ UW, goodWord w = true := fun w h => (List.mem_filter.mp h).2
theorem UW_mem {w : Cond} (h : w ∈ lw_tbl) (g : goodWord w = true) : w ∈ UW := List.mem_filter.mpr ⟨h, g⟩
theorem UW_gd {w : Cond} (h : w ∈ UW) : w ∈ UW ∧ ((w.onTables && w.keeps) = true ∨ ∃ ty, w = .arrayClass ty) := ⟨h, good_of_word (UW_good w h)⟩
def isNW : Cond → Bool
  | .fieldLinkNest .. => true
  | .methodLinkNest .. => true
  | .castable .. => true
  | .declares _ => true
  | _ => false
/-- the words that are handed on by premises of their own -/
def NW : List Cond := lw_tbl.filter isNW
theorem NW_mem {w : Cond} (h : w ∈ lw_tbl) (g : isNW w = true) : w ∈ NW := List.mem_filter.mpr ⟨h, g⟩
theorem NW_is {w : Cond} (h : w ∈ NW) : isNW w = true := (List.mem_filter.mp h).2
theorem NW_on {w : Cond} (h : isNW w = true) : w.onTables = true := by
  cases w <;> first | rfl | (simp [isNW] at h)
theorem NW_warm {w : Cond} (h : isNW w = true) {s U : State} (hW : s.WarmedH U.vm) (hZ : va_Nw w s) : va_Nw w U := by
  cases w <;> first | exact va_Nw.warmF hW hZ | exact va_Nw.warmM hW hZ | exact va_Nw.warmC hW hZ | exact va_Nw.warmD hW hZ | (simp [isNW] at h)
theorem UW_all {args : Array Value} {s : State} (h : ∀ w ∈ lw_tbl, w.before args s = true) : ∀ w ∈ UW, w.before args s = true := fun w hw => h w (List.mem_filter.mp hw).1
theorem NW_all {args : Array Value} {s : State} (h : ∀ w ∈ lw_tbl, w.before args s = true) : ∀ w ∈ NW, va_Nw w s := fun w hw => va_Nw.of (NW_on (NW_is hw)) (h w (List.mem_filter.mp hw).1)
/-- a call's words out of UW -/
theorem gIn_V {own C : String} {idx maxL : Nat} {y : MethodName} {cy : ByteArray} {ret : Option FieldType} (h1 : Cond.methodLink own idx y ∈ UW) (h2 : Cond.instanceMethod y ∈ UW) (h3 : Cond.selects C y y ∈ UW) (h4 : Cond.initialized C ∈ UW) (h5 : Cond.code y cy maxL ret ∈ UW) :
    GoodIn UW (wsV own idx C y (.code y cy maxL ret :: UW)) := by
  intro w hw
  simp only [wsV, List.mem_append, List.mem_cons, List.not_mem_nil, or_false] at hw
  rcases hw with (rfl | rfl | rfl | rfl) | (rfl | hw)
  · exact UW_gd h1
  · exact UW_gd h2
  · exact UW_gd h3
  · exact UW_gd h4
  · exact UW_gd h5
  · exact UW_gd hw
theorem gIn_S {own : String} {idx maxL : Nat} {y : MethodName} {cy : ByteArray} {ret : Option FieldType} (h1 : Cond.methodLink own idx y ∈ UW) (h2 : Cond.static y ∈ UW) (h4 : Cond.initialized own ∈ UW) (h5 : Cond.code y cy maxL ret ∈ UW) :
    GoodIn UW (wsS own idx y (.code y cy maxL ret :: UW)) := by
  intro w hw
  simp only [wsS, List.mem_append, List.mem_cons, List.not_mem_nil, or_false] at hw
  rcases hw with (rfl | rfl | rfl) | (rfl | hw)
  · exact UW_gd h1
  · exact UW_gd h2
  · exact UW_gd h4
  · exact UW_gd h5
  · exact UW_gd hw
theorem gIn_C {maxL : Nat} {y : MethodName} {cy : ByteArray} {ret : Option FieldType} (h5 : Cond.code y cy maxL ret ∈ UW) : GoodIn UW (.code y cy maxL ret :: UW) := by
  intro w hw
  rcases List.mem_cons.mp hw with rfl | hw
  · exact UW_gd h5
  · exact UW_gd hw
theorem UW_of {ws : List Cond} (h : ws.all (fun w => decide (w ∈ lw_tbl) && goodWord w) = true) : ∀ w ∈ ws, w ∈ UW := by
  intro w hw
  have h1 := List.all_eq_true.mp h w hw
  simp only [Bool.and_eq_true, decide_eq_true_eq] at h1
  exact UW_mem h1.1 h1.2

theorem uin_X0 : ∀ w ∈ u_ws RX0 TX0 9, w ∈ UW := UW_of (by decide +kernel)
theorem uin_X1 : ∀ w ∈ u_ws RX1 TX1 3, w ∈ UW := UW_of (by decide +kernel)
theorem uin_X3 : ∀ w ∈ u_ws RX3 TX3 14, w ∈ UW := UW_of (by decide +kernel)
theorem uin_X4 : ∀ w ∈ u_ws RX4 TX4 22, w ∈ UW := UW_of (by decide +kernel)
theorem uin_J4 : ∀ w ∈ u_ws RJ4 TJ4 4, w ∈ UW := UW_of (by decide +kernel)
theorem uin_J0 : ∀ w ∈ u_ws RJ0 TJ0 4, w ∈ UW := UW_of (by decide +kernel)
theorem nw_0 : Cond.fieldLinkNest "Festivalgrid" 110 "Festivalgrid$Act" "planned" "Z" "Festivalgrid" ∈ NW := NW_mem (by decide +kernel) rfl
theorem nw_1 : Cond.fieldLinkNest "Festivalgrid" 123 "Festivalgrid$Act" "start" "I" "Festivalgrid" ∈ NW := NW_mem (by decide +kernel) rfl
theorem nw_2 : Cond.fieldLinkNest "Festivalgrid" 149 "Festivalgrid$Act" "draw" "I" "Festivalgrid" ∈ NW := NW_mem (by decide +kernel) rfl
theorem nw_3 : Cond.fieldLinkNest "Festivalgrid" 152 "Festivalgrid$Act" "loud" "I" "Festivalgrid" ∈ NW := NW_mem (by decide +kernel) rfl
theorem nw_4 : Cond.fieldLinkNest "Festivalgrid" 155 "Festivalgrid$Act" "channel" "I" "Festivalgrid" ∈ NW := NW_mem (by decide +kernel) rfl
theorem nw_5 : Cond.fieldLinkNest "Festivalgrid" 169 "Festivalgrid$Storm" "stage" "I" "Festivalgrid" ∈ NW := NW_mem (by decide +kernel) rfl
theorem nw_6 : Cond.fieldLinkNest "Festivalgrid" 172 "Festivalgrid$Storm" "first" "I" "Festivalgrid" ∈ NW := NW_mem (by decide +kernel) rfl
theorem nw_7 : Cond.fieldLinkNest "Festivalgrid" 175 "Festivalgrid$Storm" "end" "I" "Festivalgrid" ∈ NW := NW_mem (by decide +kernel) rfl
theorem nw_8 : Cond.fieldLinkNest "Festivalgrid" 219 "Festivalgrid$Act" "stage" "I" "Festivalgrid" ∈ NW := NW_mem (by decide +kernel) rfl
theorem nw_9 : Cond.fieldLinkNest "Festivalgrid" 220 "Festivalgrid$Act" "length" "I" "Festivalgrid" ∈ NW := NW_mem (by decide +kernel) rfl
theorem nw_10 : Cond.fieldLinkNest "Festivalgrid" 222 "Festivalgrid$Act" "phase" "I" "Festivalgrid" ∈ NW := NW_mem (by decide +kernel) rfl
theorem nw_11 : Cond.fieldLinkNest "Festivalgrid" 273 "Festivalgrid$Act" "waits" "Z" "Festivalgrid" ∈ NW := NW_mem (by decide +kernel) rfl
theorem nw_12 : Cond.fieldLinkNest "Festivalgrid" 288 "Festivalgrid$Wish" "text" "Ljava/lang/String;" "Festivalgrid" ∈ NW := NW_mem (by decide +kernel) rfl
theorem nw_13 : Cond.fieldLinkNest "Festivalgrid$Act" 29 "Festivalgrid$Wish" "moreDraw" "I" "Festivalgrid" ∈ NW := NW_mem (by decide +kernel) rfl
theorem nw_14 : Cond.fieldLinkNest "Festivalgrid$Act" 41 "Festivalgrid$Wish" "moreLoud" "I" "Festivalgrid" ∈ NW := NW_mem (by decide +kernel) rfl
theorem nw_15 : Cond.fieldLinkNest "Festivalgrid$Act" 44 "Festivalgrid$Wish" "nextChannel" "Z" "Festivalgrid" ∈ NW := NW_mem (by decide +kernel) rfl
theorem nw_16 : Cond.fieldLinkNest "Festivalgrid$Storm" 15 "Festivalgrid$Act" "stage" "I" "Festivalgrid" ∈ NW := NW_mem (by decide +kernel) rfl
theorem nw_17 : Cond.fieldLinkNest "Festivalgrid$Storm" 18 "Festivalgrid$Act" "start" "I" "Festivalgrid" ∈ NW := NW_mem (by decide +kernel) rfl
theorem nw_18 : Cond.methodLinkNest "Festivalgrid" 53 ⟨"Festivalgrid$Act", "<init>", "()V"⟩ "Festivalgrid" ∈ NW := NW_mem (by decide +kernel) rfl
theorem nw_19 : Cond.methodLinkNest "Festivalgrid" 54 ⟨"Festivalgrid$Storm", "<init>", "()V"⟩ "Festivalgrid" ∈ NW := NW_mem (by decide +kernel) rfl
theorem nw_20 : Cond.methodLinkNest "Festivalgrid" 158 ⟨"Festivalgrid$Act", "take", "(LFestivalgrid$Wish;)V"⟩ "Festivalgrid" ∈ NW := NW_mem (by decide +kernel) rfl
theorem nw_21 : Cond.methodLinkNest "Festivalgrid" 194 ⟨"Festivalgrid$Act", "end", "()I"⟩ "Festivalgrid" ∈ NW := NW_mem (by decide +kernel) rfl
theorem nw_22 : Cond.methodLinkNest "Festivalgrid" 229 ⟨"Festivalgrid$Storm", "hits", "(LFestivalgrid$Act;)Z"⟩ "Festivalgrid" ∈ NW := NW_mem (by decide +kernel) rfl
theorem nw_23 : Cond.methodLinkNest "Festivalgrid" 232 ⟨"Festivalgrid$Act", "isTooNear", "(LFestivalgrid$Act;I)Z"⟩ "Festivalgrid" ∈ NW := NW_mem (by decide +kernel) rfl
theorem nw_24 : Cond.methodLinkNest "Festivalgrid" 236 ⟨"Festivalgrid$Act", "playsAt", "(I)Z"⟩ "Festivalgrid" ∈ NW := NW_mem (by decide +kernel) rfl
theorem nw_25 : Cond.methodLinkNest "Festivalgrid$Storm" 27 ⟨"Festivalgrid$Act", "end", "()I"⟩ "Festivalgrid" ∈ NW := NW_mem (by decide +kernel) rfl
end
section
theorem mw_0 : Cond.code yX0_init cX0_init 1 none ∈ UW := UW_mem (by decide +kernel) (by decide +kernel)
theorem mw_1 : Cond.methodLink RX0 3 objectInit ∈ UW := UW_mem (by decide +kernel) (by decide +kernel)
theorem mw_2 : Cond.instanceMethod objectInit ∈ UW := UW_mem (by decide +kernel) (by decide +kernel)
theorem mw_3 : Cond.code objectInit ⟨#[0xb1]⟩ 1 none ∈ UW := UW_mem (by decide +kernel) (by decide +kernel)
theorem mw_4 : Cond.code yX0_end cX0_end 1 (some .int) ∈ UW := UW_mem (by decide +kernel) (by decide +kernel)
theorem mw_5 : Cond.fieldLink RX0 9 "Festivalgrid$Act" "start" "I" ∈ UW := UW_mem (by decide +kernel) (by decide +kernel)
theorem mw_6 : Cond.fieldLink RX0 15 "Festivalgrid$Act" "length" "I" ∈ UW := UW_mem (by decide +kernel) (by decide +kernel)
theorem mw_7 : Cond.code yX0_playsAt cX0_playsAt 2 (some .boolean) ∈ UW := UW_mem (by decide +kernel) (by decide +kernel)
theorem mw_8 : Cond.fieldLink RX0 18 "Festivalgrid$Act" "planned" "Z" ∈ UW := UW_mem (by decide +kernel) (by decide +kernel)
theorem mw_9 : Cond.code yX0_isTooNear cX0_isTooNear 3 (some .boolean) ∈ UW := UW_mem (by decide +kernel) (by decide +kernel)
theorem mw_10 : Cond.methodLink RX0 22 yX0_end ∈ UW := UW_mem (by decide +kernel) (by decide +kernel)
theorem mw_11 : Cond.instanceMethod yX0_end ∈ UW := UW_mem (by decide +kernel) (by decide +kernel)
theorem mw_12 : Cond.selects RX0 yX0_end yX0_end ∈ UW := UW_mem (by decide +kernel) (by decide +kernel)
theorem mw_13 : Cond.initialized RX0 ∈ UW := UW_mem (by decide +kernel) (by decide +kernel)
theorem mw_14 : Cond.code yX0_withinStrength cX0_withinStrength 1 (some .int) ∈ UW := UW_mem (by decide +kernel) (by decide +kernel)
theorem mw_15 : Cond.methodLink RX0 50 Lib.Math.min.name ∈ UW := UW_mem (by decide +kernel) (by decide +kernel)
theorem mw_16 : Cond.static Lib.Math.min.name ∈ UW := UW_mem (by decide +kernel) (by decide +kernel)
theorem mw_17 : Cond.initialized "java/lang/Math" ∈ UW := UW_mem (by decide +kernel) (by decide +kernel)
theorem mw_18 : Cond.code Lib.Math.min.name Lib.Math.min.code 2 (some .int) ∈ UW := UW_mem (by decide +kernel) (by decide +kernel)
theorem mw_19 : Cond.methodLink RX0 56 Lib.Math.max.name ∈ UW := UW_mem (by decide +kernel) (by decide +kernel)
theorem mw_20 : Cond.static Lib.Math.max.name ∈ UW := UW_mem (by decide +kernel) (by decide +kernel)
theorem mw_21 : Cond.code Lib.Math.max.name Lib.Math.max.code 2 (some .int) ∈ UW := UW_mem (by decide +kernel) (by decide +kernel)
theorem mw_22 : Cond.code yX0_take cX0_take 2 none ∈ UW := UW_mem (by decide +kernel) (by decide +kernel)
theorem mw_23 : Cond.fieldLink RX0 26 "Festivalgrid$Act" "draw" "I" ∈ UW := UW_mem (by decide +kernel) (by decide +kernel)
theorem mw_24 : Cond.fieldLink RX0 38 "Festivalgrid$Act" "loud" "I" ∈ UW := UW_mem (by decide +kernel) (by decide +kernel)
theorem mw_25 : Cond.fieldLink RX0 47 "Festivalgrid$Act" "channel" "I" ∈ UW := UW_mem (by decide +kernel) (by decide +kernel)
theorem mw_26 : Cond.methodLink RX0 34 yX0_withinStrength ∈ UW := UW_mem (by decide +kernel) (by decide +kernel)
theorem mw_27 : Cond.static yX0_withinStrength ∈ UW := UW_mem (by decide +kernel) (by decide +kernel)
theorem mw_28 : Cond.code yX1_init cX1_init 1 none ∈ UW := UW_mem (by decide +kernel) (by decide +kernel)
theorem mw_29 : Cond.methodLink RX1 3 objectInit ∈ UW := UW_mem (by decide +kernel) (by decide +kernel)
theorem mw_30 : Cond.fieldLink RX1 9 "Festivalgrid$Storm" "stage" "I" ∈ UW := UW_mem (by decide +kernel) (by decide +kernel)
theorem mw_31 : Cond.code yX1_hits cX1_hits 2 (some .boolean) ∈ UW := UW_mem (by decide +kernel) (by decide +kernel)
theorem mw_32 : Cond.fieldLink RX1 21 "Festivalgrid$Storm" "end" "I" ∈ UW := UW_mem (by decide +kernel) (by decide +kernel)
theorem mw_33 : Cond.fieldLink RX1 24 "Festivalgrid$Storm" "first" "I" ∈ UW := UW_mem (by decide +kernel) (by decide +kernel)
theorem mw_34 : Cond.code yJ2_newBytesLength_0f7a4 cJ2_newBytesLength_0f7a4 1 (some .int) ∈ UW := UW_mem (by decide +kernel) (by decide +kernel)
theorem mw_36 : Cond.code yJ2_newBytesFor_77867 cJ2_newBytesFor_77867 1 (some (.array .byte)) ∈ UW := UW_mem (by decide +kernel) (by decide +kernel)
theorem mw_37 : Cond.arrayClass .byte ∈ UW := UW_mem (by decide +kernel) (by decide +kernel)
theorem mw_38 : Cond.methodLink RJ2 11 yJ2_newBytesLength_0f7a4 ∈ UW := UW_mem (by decide +kernel) (by decide +kernel)
theorem mw_39 : Cond.static yJ2_newBytesLength_0f7a4 ∈ UW := UW_mem (by decide +kernel) (by decide +kernel)
theorem mw_40 : Cond.initialized RJ2 ∈ UW := UW_mem (by decide +kernel) (by decide +kernel)
theorem mw_41 : Cond.code yJ5_init_d00df cJ5_init_d00df 2 none ∈ UW := UW_mem (by decide +kernel) (by decide +kernel)
theorem mw_42 : Cond.methodLink RJ5 3 objectInit ∈ UW := UW_mem (by decide +kernel) (by decide +kernel)
theorem mw_43 : Cond.fieldLink RJ5 18 "java/lang/String" "COMPACT_STRINGS" "Z" ∈ UW := UW_mem (by decide +kernel) (by decide +kernel)
theorem mw_44 : Cond.fieldLink RJ5 15 "java/lang/AbstractStringBuilder" "value" "[B" ∈ UW := UW_mem (by decide +kernel) (by decide +kernel)
theorem mw_45 : Cond.fieldLink RJ5 22 "java/lang/AbstractStringBuilder" "coder" "B" ∈ UW := UW_mem (by decide +kernel) (by decide +kernel)
theorem mw_46 : Cond.methodLink RJ5 26 yJ2_newBytesFor_77867 ∈ UW := UW_mem (by decide +kernel) (by decide +kernel)
theorem mw_47 : Cond.static yJ2_newBytesFor_77867 ∈ UW := UW_mem (by decide +kernel) (by decide +kernel)
theorem mw_48 : Cond.code yJ4_init_da8c8 cJ4_init_da8c8 1 none ∈ UW := UW_mem (by decide +kernel) (by decide +kernel)
theorem mw_49 : Cond.methodLink RJ4 1 yJ5_init_d00df ∈ UW := UW_mem (by decide +kernel) (by decide +kernel)
theorem mw_50 : Cond.instanceMethod yJ5_init_d00df ∈ UW := UW_mem (by decide +kernel) (by decide +kernel)
theorem mw_51 : Cond.initialized RJ5 ∈ UW := UW_mem (by decide +kernel) (by decide +kernel)
theorem mw_52 : Cond.code yJ7_fill_53178 cJ7_fill_53178 4 none ∈ UW := UW_mem (by decide +kernel) (by decide +kernel)
theorem mw_53 : Cond.methodLink RX3 1 objectInit ∈ UW := UW_mem (by decide +kernel) (by decide +kernel)
theorem mw_54 : Cond.arrayClass .int ∈ UW := UW_mem (by decide +kernel) (by decide +kernel)
theorem mw_55 : Cond.fieldLink RX3 9 "Festivalgrid" "sets" "[I" ∈ UW := UW_mem (by decide +kernel) (by decide +kernel)
theorem mw_56 : Cond.fieldLink RX3 13 "Festivalgrid" "changes" "[I" ∈ UW := UW_mem (by decide +kernel) (by decide +kernel)
theorem mw_57 : Cond.fieldLink RX3 16 "Festivalgrid" "bounds" "[I" ∈ UW := UW_mem (by decide +kernel) (by decide +kernel)
theorem mw_58 : Cond.fieldLink RX3 19 "Festivalgrid" "winds" "[I" ∈ UW := UW_mem (by decide +kernel) (by decide +kernel)
theorem mw_59 : Cond.classLink RX3 22 RX0 ∈ UW := UW_mem (by decide +kernel) (by decide +kernel)
theorem mw_60 : Cond.fieldLink RX3 24 "Festivalgrid" "acts" "[LFestivalgrid$Act;" ∈ UW := UW_mem (by decide +kernel) (by decide +kernel)
theorem mw_61 : Cond.classLink RX3 28 RJ4 ∈ UW := UW_mem (by decide +kernel) (by decide +kernel)
theorem mw_62 : Cond.instantiable RJ4 4 ∈ UW := UW_mem (by decide +kernel) (by decide +kernel)
theorem mw_63 : Cond.initialized RJ4 ∈ UW := UW_mem (by decide +kernel) (by decide +kernel)
theorem mw_64 : Cond.fieldLink RX3 31 "Festivalgrid" "word" "Ljava/lang/StringBuilder;" ∈ UW := UW_mem (by decide +kernel) (by decide +kernel)
theorem mw_65 : Cond.classLink RX3 35 RX1 ∈ UW := UW_mem (by decide +kernel) (by decide +kernel)
theorem mw_66 : Cond.fieldLink RX3 37 "Festivalgrid" "storms" "[LFestivalgrid$Storm;" ∈ UW := UW_mem (by decide +kernel) (by decide +kernel)
theorem mw_67 : Cond.fieldLink RX3 41 "Festivalgrid" "loads" "[I" ∈ UW := UW_mem (by decide +kernel) (by decide +kernel)
theorem mw_68 : Cond.fieldLink RX3 44 "Festivalgrid" "noises" "[I" ∈ UW := UW_mem (by decide +kernel) (by decide +kernel)
theorem mw_69 : Cond.instantiable RX0 9 ∈ UW := UW_mem (by decide +kernel) (by decide +kernel)
theorem mw_70 : Cond.instantiable RX1 3 ∈ UW := UW_mem (by decide +kernel) (by decide +kernel)
theorem mw_71 : Cond.initialized RX1 ∈ UW := UW_mem (by decide +kernel) (by decide +kernel)
theorem mw_72 : Cond.methodLink RX3 30 yJ4_init_da8c8 ∈ UW := UW_mem (by decide +kernel) (by decide +kernel)
theorem mw_73 : Cond.instanceMethod yJ4_init_da8c8 ∈ UW := UW_mem (by decide +kernel) (by decide +kernel)
theorem mw_74 : Cond.methodLink RX3 47 yJ7_fill_53178 ∈ UW := UW_mem (by decide +kernel) (by decide +kernel)
theorem mw_75 : Cond.static yJ7_fill_53178 ∈ UW := UW_mem (by decide +kernel) (by decide +kernel)
theorem mw_76 : Cond.initialized RJ7 ∈ UW := UW_mem (by decide +kernel) (by decide +kernel)
theorem mw_77 : Cond.instanceMethod yX0_init ∈ UW := UW_mem (by decide +kernel) (by decide +kernel)
theorem mw_78 : Cond.instanceMethod yX1_init ∈ UW := UW_mem (by decide +kernel) (by decide +kernel)
theorem mw_79 : Cond.code yX3_init cX3_init 2 none ∈ UW := UW_mem (by decide +kernel) (by decide +kernel)
theorem mw_80 : Cond.code yX3_requireRange cX3_requireRange 3 none ∈ UW := UW_mem (by decide +kernel) (by decide +kernel)
theorem mw_81 : Cond.classLink RX3 202 "java/lang/IllegalArgumentException" ∈ UW := UW_mem (by decide +kernel) (by decide +kernel)
theorem mw_82 : Cond.initialized "java/lang/IllegalArgumentException" ∈ UW := UW_mem (by decide +kernel) (by decide +kernel)
theorem mw_83 : Cond.code yX3_requireMinute cX3_requireMinute 1 none ∈ UW := UW_mem (by decide +kernel) (by decide +kernel)
theorem mw_84 : Cond.methodLink RX3 79 yX3_requireRange ∈ UW := UW_mem (by decide +kernel) (by decide +kernel)
theorem mw_85 : Cond.static yX3_requireRange ∈ UW := UW_mem (by decide +kernel) (by decide +kernel)
theorem mw_86 : Cond.initialized RX3 ∈ UW := UW_mem (by decide +kernel) (by decide +kernel)
theorem mw_87 : Cond.code yX3_startSet cX3_startSet 3 (some .int) ∈ UW := UW_mem (by decide +kernel) (by decide +kernel)
theorem mw_88 : Cond.classLink RX3 63 "java/lang/IllegalStateException" ∈ UW := UW_mem (by decide +kernel) (by decide +kernel)
theorem mw_89 : Cond.initialized "java/lang/IllegalStateException" ∈ UW := UW_mem (by decide +kernel) (by decide +kernel)
theorem mw_90 : Cond.fieldLink RX3 59 "Festivalgrid" "setCount" "I" ∈ UW := UW_mem (by decide +kernel) (by decide +kernel)
theorem mw_91 : Cond.methodLink RX3 70 Lib.Math.abs.name ∈ UW := UW_mem (by decide +kernel) (by decide +kernel)
theorem mw_92 : Cond.static Lib.Math.abs.name ∈ UW := UW_mem (by decide +kernel) (by decide +kernel)
theorem mw_93 : Cond.code Lib.Math.abs.name Lib.Math.abs.code 1 (some .int) ∈ UW := UW_mem (by decide +kernel) (by decide +kernel)
theorem mw_94 : Cond.methodLink RX3 55 yX3_requireMinute ∈ UW := UW_mem (by decide +kernel) (by decide +kernel)
theorem mw_95 : Cond.static yX3_requireMinute ∈ UW := UW_mem (by decide +kernel) (by decide +kernel)
theorem mw_96 : Cond.code yX3_requireStage cX3_requireStage 1 none ∈ UW := UW_mem (by decide +kernel) (by decide +kernel)
theorem mw_97 : Cond.classLink RX3 94 "java/lang/IndexOutOfBoundsException" ∈ UW := UW_mem (by decide +kernel) (by decide +kernel)
theorem mw_98 : Cond.initialized "java/lang/IndexOutOfBoundsException" ∈ UW := UW_mem (by decide +kernel) (by decide +kernel)
theorem mw_99 : Cond.code yX3_fitsOnStage cX3_fitsOnStage 7 (some .boolean) ∈ UW := UW_mem (by decide +kernel) (by decide +kernel)
theorem mw_100 : Cond.instanceMethod yX1_hits ∈ UW := UW_mem (by decide +kernel) (by decide +kernel)
theorem mw_101 : Cond.selects RX1 yX1_hits yX1_hits ∈ UW := UW_mem (by decide +kernel) (by decide +kernel)
theorem mw_102 : Cond.instanceMethod yX0_isTooNear ∈ UW := UW_mem (by decide +kernel) (by decide +kernel)
theorem mw_103 : Cond.selects RX0 yX0_isTooNear yX0_isTooNear ∈ UW := UW_mem (by decide +kernel) (by decide +kernel)
theorem mw_104 : Cond.methodLink RX3 225 yX3_fitsOnStage ∈ UW := UW_mem (by decide +kernel) (by decide +kernel)
theorem mw_105 : Cond.instanceMethod yX3_fitsOnStage ∈ UW := UW_mem (by decide +kernel) (by decide +kernel)
theorem mw_106 : Cond.selects RX3 yX3_fitsOnStage yX3_fitsOnStage ∈ UW := UW_mem (by decide +kernel) (by decide +kernel)
theorem mw_107 : Cond.code yX3_isStageFine cX3_isStageFine 6 (some .boolean) ∈ UW := UW_mem (by decide +kernel) (by decide +kernel)
theorem mw_108 : Cond.methodLink RX3 76 yX3_requireStage ∈ UW := UW_mem (by decide +kernel) (by decide +kernel)
theorem mw_109 : Cond.static yX3_requireStage ∈ UW := UW_mem (by decide +kernel) (by decide +kernel)
theorem mw_110 : Cond.methodLink RX3 83 yX3_isStageFine ∈ UW := UW_mem (by decide +kernel) (by decide +kernel)
theorem mw_111 : Cond.instanceMethod yX3_isStageFine ∈ UW := UW_mem (by decide +kernel) (by decide +kernel)
theorem mw_112 : Cond.selects RX3 yX3_isStageFine yX3_isStageFine ∈ UW := UW_mem (by decide +kernel) (by decide +kernel)
theorem mw_113 : Cond.code yX3_setChange cX3_setChange 4 (some .boolean) ∈ UW := UW_mem (by decide +kernel) (by decide +kernel)
theorem mw_114 : Cond.code yX3_requireHouse cX3_requireHouse 1 none ∈ UW := UW_mem (by decide +kernel) (by decide +kernel)
theorem mw_115 : Cond.code yX3_hasChannel cX3_hasChannel 2 (some .boolean) ∈ UW := UW_mem (by decide +kernel) (by decide +kernel)
theorem mw_116 : Cond.code yX3_addToLook cX3_addToLook 5 none ∈ UW := UW_mem (by decide +kernel) (by decide +kernel)
theorem mw_117 : Cond.methodLink RX3 270 Lib.Math.max.name ∈ UW := UW_mem (by decide +kernel) (by decide +kernel)
theorem mw_118 : Cond.fieldLink RX3 249 "Festivalgrid" "channelsTouch" "Z" ∈ UW := UW_mem (by decide +kernel) (by decide +kernel)
theorem mw_119 : Cond.fieldLink RX3 191 "Festivalgrid" "channelSet" "I" ∈ UW := UW_mem (by decide +kernel) (by decide +kernel)
theorem mw_120 : Cond.methodLink RX3 260 yX3_hasChannel ∈ UW := UW_mem (by decide +kernel) (by decide +kernel)
theorem mw_121 : Cond.static yX3_hasChannel ∈ UW := UW_mem (by decide +kernel) (by decide +kernel)
theorem mw_122 : Cond.instanceMethod yX0_playsAt ∈ UW := UW_mem (by decide +kernel) (by decide +kernel)
theorem mw_123 : Cond.selects RX0 yX0_playsAt yX0_playsAt ∈ UW := UW_mem (by decide +kernel) (by decide +kernel)
theorem mw_124 : Cond.methodLink RX3 266 yX3_addToLook ∈ UW := UW_mem (by decide +kernel) (by decide +kernel)
theorem mw_125 : Cond.instanceMethod yX3_addToLook ∈ UW := UW_mem (by decide +kernel) (by decide +kernel)
theorem mw_126 : Cond.selects RX3 yX3_addToLook yX3_addToLook ∈ UW := UW_mem (by decide +kernel) (by decide +kernel)
theorem mw_127 : Cond.code yX3_lookAt cX3_lookAt 7 none ∈ UW := UW_mem (by decide +kernel) (by decide +kernel)
theorem mw_128 : Cond.code yX3_setsAt cX3_setsAt 4 (some .int) ∈ UW := UW_mem (by decide +kernel) (by decide +kernel)
theorem mw_129 : Cond.code yJ6_bitCount_0f7a4 cJ6_bitCount_0f7a4 1 (some .int) ∈ UW := UW_mem (by decide +kernel) (by decide +kernel)
theorem mw_133 : Cond.code yX3_hasPairAround cX3_hasPairAround 3 (some .boolean) ∈ UW := UW_mem (by decide +kernel) (by decide +kernel)
theorem mw_134 : Cond.code yX3_hasMiddleChannel cX3_hasMiddleChannel 2 (some .boolean) ∈ UW := UW_mem (by decide +kernel) (by decide +kernel)
theorem mw_135 : Cond.methodLink RX3 255 yJ6_bitCount_0f7a4 ∈ UW := UW_mem (by decide +kernel) (by decide +kernel)
theorem mw_136 : Cond.static yJ6_bitCount_0f7a4 ∈ UW := UW_mem (by decide +kernel) (by decide +kernel)
theorem mw_137 : Cond.initialized RJ6 ∈ UW := UW_mem (by decide +kernel) (by decide +kernel)
theorem mw_138 : Cond.methodLink RX3 263 yX3_hasPairAround ∈ UW := UW_mem (by decide +kernel) (by decide +kernel)
theorem mw_139 : Cond.static yX3_hasPairAround ∈ UW := UW_mem (by decide +kernel) (by decide +kernel)
theorem mw_140 : Cond.methodLink RX3 188 yX3_lookAt ∈ UW := UW_mem (by decide +kernel) (by decide +kernel)
theorem mw_141 : Cond.instanceMethod yX3_lookAt ∈ UW := UW_mem (by decide +kernel) (by decide +kernel)
theorem mw_142 : Cond.selects RX3 yX3_lookAt yX3_lookAt ∈ UW := UW_mem (by decide +kernel) (by decide +kernel)
theorem mw_143 : Cond.methodLink RX3 246 yX3_setsAt ∈ UW := UW_mem (by decide +kernel) (by decide +kernel)
theorem mw_144 : Cond.instanceMethod yX3_setsAt ∈ UW := UW_mem (by decide +kernel) (by decide +kernel)
theorem mw_145 : Cond.selects RX3 yX3_setsAt yX3_setsAt ∈ UW := UW_mem (by decide +kernel) (by decide +kernel)
theorem mw_146 : Cond.methodLink RX3 252 yX3_hasMiddleChannel ∈ UW := UW_mem (by decide +kernel) (by decide +kernel)
theorem mw_147 : Cond.static yX3_hasMiddleChannel ∈ UW := UW_mem (by decide +kernel) (by decide +kernel)
theorem mw_148 : Cond.code yX3_brokenAt cX3_brokenAt 7 (some .int) ∈ UW := UW_mem (by decide +kernel) (by decide +kernel)
theorem mw_149 : Cond.methodLink RX3 199 yX3_brokenAt ∈ UW := UW_mem (by decide +kernel) (by decide +kernel)
theorem mw_150 : Cond.instanceMethod yX3_brokenAt ∈ UW := UW_mem (by decide +kernel) (by decide +kernel)
theorem mw_151 : Cond.selects RX3 yX3_brokenAt yX3_brokenAt ∈ UW := UW_mem (by decide +kernel) (by decide +kernel)
theorem mw_152 : Cond.code yX3_brokenWithin cX3_brokenWithin 6 (some .int) ∈ UW := UW_mem (by decide +kernel) (by decide +kernel)
theorem mw_153 : Cond.methodLink RX3 87 yX3_requireHouse ∈ UW := UW_mem (by decide +kernel) (by decide +kernel)
theorem mw_154 : Cond.static yX3_requireHouse ∈ UW := UW_mem (by decide +kernel) (by decide +kernel)
theorem mw_155 : Cond.methodLink RX3 90 yX3_brokenWithin ∈ UW := UW_mem (by decide +kernel) (by decide +kernel)
theorem mw_156 : Cond.instanceMethod yX3_brokenWithin ∈ UW := UW_mem (by decide +kernel) (by decide +kernel)
theorem mw_157 : Cond.selects RX3 yX3_brokenWithin yX3_brokenWithin ∈ UW := UW_mem (by decide +kernel) (by decide +kernel)
theorem mw_158 : Cond.code yX3_setBound cX3_setBound 4 (some .boolean) ∈ UW := UW_mem (by decide +kernel) (by decide +kernel)
theorem mw_159 : Cond.methodLink RX3 99 Lib.Math.min.name ∈ UW := UW_mem (by decide +kernel) (by decide +kernel)
theorem mw_160 : Cond.code yX3_setWind cX3_setWind 4 (some .boolean) ∈ UW := UW_mem (by decide +kernel) (by decide +kernel)
theorem mw_161 : Cond.code yX3_requirePhase cX3_requirePhase 1 none ∈ UW := UW_mem (by decide +kernel) (by decide +kernel)
theorem mw_162 : Cond.code yX3_tryAct cX3_tryAct 9 (some (.object "Festivalgrid$Act")) ∈ UW := UW_mem (by decide +kernel) (by decide +kernel)
theorem mw_163 : Cond.fieldLink RX3 114 "Festivalgrid" "actCount" "I" ∈ UW := UW_mem (by decide +kernel) (by decide +kernel)
theorem mw_164 : Cond.methodLink RX3 185 yX3_requirePhase ∈ UW := UW_mem (by decide +kernel) (by decide +kernel)
theorem mw_165 : Cond.static yX3_requirePhase ∈ UW := UW_mem (by decide +kernel) (by decide +kernel)
theorem mw_166 : Cond.code yX3_brokenBy cX3_brokenBy 2 (some .int) ∈ UW := UW_mem (by decide +kernel) (by decide +kernel)
theorem mw_167 : Cond.methodLink RX3 102 yX3_tryAct ∈ UW := UW_mem (by decide +kernel) (by decide +kernel)
theorem mw_168 : Cond.instanceMethod yX3_tryAct ∈ UW := UW_mem (by decide +kernel) (by decide +kernel)
theorem mw_169 : Cond.selects RX3 yX3_tryAct yX3_tryAct ∈ UW := UW_mem (by decide +kernel) (by decide +kernel)
theorem mw_170 : Cond.methodLink RX3 106 yX3_brokenBy ∈ UW := UW_mem (by decide +kernel) (by decide +kernel)
theorem mw_171 : Cond.instanceMethod yX3_brokenBy ∈ UW := UW_mem (by decide +kernel) (by decide +kernel)
theorem mw_172 : Cond.selects RX3 yX3_brokenBy yX3_brokenBy ∈ UW := UW_mem (by decide +kernel) (by decide +kernel)
theorem mw_173 : Cond.code yX3_plan cX3_plan 9 (some .int) ∈ UW := UW_mem (by decide +kernel) (by decide +kernel)
theorem mw_174 : Cond.code yX3_reason cX3_reason 10 (some .int) ∈ UW := UW_mem (by decide +kernel) (by decide +kernel)
theorem mw_175 : Cond.code yX3_requireAct cX3_requireAct 2 none ∈ UW := UW_mem (by decide +kernel) (by decide +kernel)
theorem mw_176 : Cond.code yX3_requirePlanned cX3_requirePlanned 2 none ∈ UW := UW_mem (by decide +kernel) (by decide +kernel)
theorem mw_177 : Cond.methodLink RX3 117 yX3_requireAct ∈ UW := UW_mem (by decide +kernel) (by decide +kernel)
theorem mw_178 : Cond.instanceMethod yX3_requireAct ∈ UW := UW_mem (by decide +kernel) (by decide +kernel)
theorem mw_179 : Cond.selects RX3 yX3_requireAct yX3_requireAct ∈ UW := UW_mem (by decide +kernel) (by decide +kernel)
theorem mw_180 : Cond.methodLink RX3 120 yX3_requirePlanned ∈ UW := UW_mem (by decide +kernel) (by decide +kernel)
theorem mw_181 : Cond.instanceMethod yX3_requirePlanned ∈ UW := UW_mem (by decide +kernel) (by decide +kernel)
theorem mw_182 : Cond.selects RX3 yX3_requirePlanned yX3_requirePlanned ∈ UW := UW_mem (by decide +kernel) (by decide +kernel)
theorem mw_183 : Cond.code yX3_move cX3_move 5 (some .boolean) ∈ UW := UW_mem (by decide +kernel) (by decide +kernel)
theorem mw_184 : Cond.code yX3_drop cX3_drop 2 none ∈ UW := UW_mem (by decide +kernel) (by decide +kernel)
theorem mw_185 : Cond.code yX3_start cX3_start 2 (some .int) ∈ UW := UW_mem (by decide +kernel) (by decide +kernel)
theorem mw_186 : Cond.code yX3_firstFineStart cX3_firstFineStart 5 (some .int) ∈ UW := UW_mem (by decide +kernel) (by decide +kernel)
theorem mw_187 : Cond.methodLink RX3 126 yX3_firstFineStart ∈ UW := UW_mem (by decide +kernel) (by decide +kernel)
theorem mw_188 : Cond.instanceMethod yX3_firstFineStart ∈ UW := UW_mem (by decide +kernel) (by decide +kernel)
theorem mw_189 : Cond.selects RX3 yX3_firstFineStart yX3_firstFineStart ∈ UW := UW_mem (by decide +kernel) (by decide +kernel)
theorem mw_190 : Cond.code yX3_firstStart cX3_firstStart 6 (some .int) ∈ UW := UW_mem (by decide +kernel) (by decide +kernel)
theorem mw_191 : Cond.code yJ5_length_8abf5 cJ5_length_8abf5 1 (some .int) ∈ UW := UW_mem (by decide +kernel) (by decide +kernel)
theorem mw_192 : Cond.fieldLink RJ5 79 "java/lang/AbstractStringBuilder" "count" "I" ∈ UW := UW_mem (by decide +kernel) (by decide +kernel)
theorem mw_193 : Cond.code yJ4_length_8abf5 cJ4_length_8abf5 1 (some .int) ∈ UW := UW_mem (by decide +kernel) (by decide +kernel)
theorem mw_194 : Cond.methodLink RJ4 343 yJ5_length_8abf5 ∈ UW := UW_mem (by decide +kernel) (by decide +kernel)
theorem mw_197 : Cond.instanceMethod yJ5_length_8abf5 ∈ UW := UW_mem (by decide +kernel) (by decide +kernel)
theorem mw_198 : Cond.code yJ8_hugeLength_7cf53 cJ8_hugeLength_7cf53 3 (some .int) ∈ UW := UW_mem (by decide +kernel) (by decide +kernel)
theorem mw_200 : Cond.code yJ8_newLength_cabcc cJ8_newLength_cabcc 4 (some .int) ∈ UW := UW_mem (by decide +kernel) (by decide +kernel)
theorem mw_201 : Cond.methodLink RJ8 194 Lib.Math.max.name ∈ UW := UW_mem (by decide +kernel) (by decide +kernel)
theorem mw_202 : Cond.methodLink RJ8 201 yJ8_hugeLength_7cf53 ∈ UW := UW_mem (by decide +kernel) (by decide +kernel)
theorem mw_203 : Cond.static yJ8_hugeLength_7cf53 ∈ UW := UW_mem (by decide +kernel) (by decide +kernel)
theorem mw_204 : Cond.initialized RJ8 ∈ UW := UW_mem (by decide +kernel) (by decide +kernel)
theorem mw_205 : Cond.code yJ5_newCapacity_0f7a4 cJ5_newCapacity_0f7a4 6 (some .int) ∈ UW := UW_mem (by decide +kernel) (by decide +kernel)
theorem mw_207 : Cond.methodLink RJ5 114 yJ8_newLength_cabcc ∈ UW := UW_mem (by decide +kernel) (by decide +kernel)
theorem mw_208 : Cond.static yJ8_newLength_cabcc ∈ UW := UW_mem (by decide +kernel) (by decide +kernel)
theorem mw_209 : Cond.code yJ7_copyOf_9075b cJ7_copyOf_9075b 3 (some (.array .byte)) ∈ UW := UW_mem (by decide +kernel) (by decide +kernel)
theorem mw_210 : Cond.methodLink RJ7 310 ⟨"[B", "clone", "()Ljava/lang/Object;"⟩ ∈ UW := UW_mem (by decide +kernel) (by decide +kernel)
theorem mw_213 : Cond.instanceMethod ⟨"java/lang/Object", "clone", "()Ljava/lang/Object;"⟩ ∈ UW := UW_mem (by decide +kernel) (by decide +kernel)
theorem mw_214 : Cond.selects "[B" ⟨"[B", "clone", "()Ljava/lang/Object;"⟩ ⟨"java/lang/Object", "clone", "()Ljava/lang/Object;"⟩ ∈ UW := UW_mem (by decide +kernel) (by decide +kernel)
theorem mw_215 : Cond.classLink RJ7 311 "[B" ∈ UW := UW_mem (by decide +kernel) (by decide +kernel)
theorem mw_216 : Cond.methodLink RJ7 304 Lib.Math.min.name ∈ UW := UW_mem (by decide +kernel) (by decide +kernel)
theorem mw_217 : Cond.methodLink RJ7 150 arraycopyName ∈ UW := UW_mem (by decide +kernel) (by decide +kernel)
theorem mw_219 : Cond.static arraycopyName ∈ UW := UW_mem (by decide +kernel) (by decide +kernel)
theorem mw_220 : Cond.initialized "java/lang/System" ∈ UW := UW_mem (by decide +kernel) (by decide +kernel)
theorem mw_221 : Cond.methodLink RJ5 104 ⟨"java/lang/AbstractStringBuilder", "newCapacity", "(I)I"⟩ ∈ UW := UW_mem (by decide +kernel) (by decide +kernel)
theorem mw_224 : Cond.instanceMethod yJ5_newCapacity_0f7a4 ∈ UW := UW_mem (by decide +kernel) (by decide +kernel)
theorem mw_225 : Cond.methodLink RJ5 108 yJ7_copyOf_9075b ∈ UW := UW_mem (by decide +kernel) (by decide +kernel)
theorem mw_226 : Cond.static yJ7_copyOf_9075b ∈ UW := UW_mem (by decide +kernel) (by decide +kernel)
theorem mw_227 : Cond.code yJ5_ensureCapacityInternal_d00df cJ5_ensureCapacityInternal_d00df 3 none ∈ UW := UW_mem (by decide +kernel) (by decide +kernel)
theorem mw_228 : Cond.code yJ5_isLatin1_aae02 cJ5_isLatin1_aae02 1 (some .boolean) ∈ UW := UW_mem (by decide +kernel) (by decide +kernel)
theorem mw_229 : Cond.code yJ1_canEncode_fc78d cJ1_canEncode_fc78d 1 (some .boolean) ∈ UW := UW_mem (by decide +kernel) (by decide +kernel)
theorem mw_230 : Cond.code yJ2_length_9d52b cJ2_length_9d52b 1 (some .int) ∈ UW := UW_mem (by decide +kernel) (by decide +kernel)
theorem mw_231 : Cond.code yJ3_checkFromIndexSize_8c36e cJ3_checkFromIndexSize_8c36e 4 (some .int) ∈ UW := UW_mem (by decide +kernel) (by decide +kernel)
theorem mw_232 : Cond.code yJ0_checkBoundsOffCount_cabcc cJ0_checkBoundsOffCount_cabcc 3 (some .int) ∈ UW := UW_mem (by decide +kernel) (by decide +kernel)
theorem mw_233 : Cond.fieldLink RJ0 1053 "jdk/internal/util/Preconditions" "SIOOBE_FORMATTER" "Ljava/util/function/BiFunction;" ∈ UW := UW_mem (by decide +kernel) (by decide +kernel)
theorem mw_234 : Cond.methodLink RJ0 1065 yJ3_checkFromIndexSize_8c36e ∈ UW := UW_mem (by decide +kernel) (by decide +kernel)
theorem mw_235 : Cond.static yJ3_checkFromIndexSize_8c36e ∈ UW := UW_mem (by decide +kernel) (by decide +kernel)
theorem mw_236 : Cond.initialized RJ3 ∈ UW := UW_mem (by decide +kernel) (by decide +kernel)
theorem mw_237 : Cond.code yJ2_checkBoundsOffCount_d044e cJ2_checkBoundsOffCount_d044e 3 none ∈ UW := UW_mem (by decide +kernel) (by decide +kernel)
theorem mw_238 : Cond.methodLink RJ2 48 yJ2_length_9d52b ∈ UW := UW_mem (by decide +kernel) (by decide +kernel)
theorem mw_239 : Cond.static yJ2_length_9d52b ∈ UW := UW_mem (by decide +kernel) (by decide +kernel)
theorem mw_240 : Cond.methodLink RJ2 419 yJ0_checkBoundsOffCount_cabcc ∈ UW := UW_mem (by decide +kernel) (by decide +kernel)
theorem mw_241 : Cond.static yJ0_checkBoundsOffCount_cabcc ∈ UW := UW_mem (by decide +kernel) (by decide +kernel)
theorem mw_242 : Cond.initialized RJ0 ∈ UW := UW_mem (by decide +kernel) (by decide +kernel)
theorem mw_243 : Cond.code yJ2_putChar_b72d1 cJ2_putChar_b72d1 3 none ∈ UW := UW_mem (by decide +kernel) (by decide +kernel)
theorem mw_244 : Cond.fieldLink RJ2 44 "java/lang/StringUTF16" "$assertionsDisabled" "Z" ∈ UW := UW_mem (by decide +kernel) (by decide +kernel)
theorem mw_245 : Cond.fieldLink RJ2 59 "java/lang/StringUTF16" "HI_BYTE_SHIFT" "I" ∈ UW := UW_mem (by decide +kernel) (by decide +kernel)
theorem mw_246 : Cond.fieldLink RJ2 63 "java/lang/StringUTF16" "LO_BYTE_SHIFT" "I" ∈ UW := UW_mem (by decide +kernel) (by decide +kernel)
theorem mw_247 : Cond.code yJ2_inflate_0e8fd cJ2_inflate_0e8fd 6 none ∈ UW := UW_mem (by decide +kernel) (by decide +kernel)
theorem mw_248 : Cond.methodLink RJ2 173 yJ2_checkBoundsOffCount_d044e ∈ UW := UW_mem (by decide +kernel) (by decide +kernel)
theorem mw_249 : Cond.static yJ2_checkBoundsOffCount_d044e ∈ UW := UW_mem (by decide +kernel) (by decide +kernel)
theorem mw_250 : Cond.methodLink RJ2 111 yJ2_putChar_b72d1 ∈ UW := UW_mem (by decide +kernel) (by decide +kernel)
theorem mw_251 : Cond.static yJ2_putChar_b72d1 ∈ UW := UW_mem (by decide +kernel) (by decide +kernel)
theorem mw_252 : Cond.methodLink RJ1 240 yJ2_inflate_0e8fd ∈ UW := UW_mem (by decide +kernel) (by decide +kernel)
theorem mw_253 : Cond.static yJ2_inflate_0e8fd ∈ UW := UW_mem (by decide +kernel) (by decide +kernel)
theorem mw_254 : Cond.code yJ1_inflate_0e8fd cJ1_inflate_0e8fd 5 none ∈ UW := UW_mem (by decide +kernel) (by decide +kernel)
theorem mw_255 : Cond.methodLink RJ5 83 ⟨"java/lang/AbstractStringBuilder", "isLatin1", "()Z"⟩ ∈ UW := UW_mem (by decide +kernel) (by decide +kernel)
theorem mw_258 : Cond.instanceMethod yJ5_isLatin1_aae02 ∈ UW := UW_mem (by decide +kernel) (by decide +kernel)
theorem mw_259 : Cond.methodLink RJ5 125 yJ1_inflate_0e8fd ∈ UW := UW_mem (by decide +kernel) (by decide +kernel)
theorem mw_260 : Cond.static yJ1_inflate_0e8fd ∈ UW := UW_mem (by decide +kernel) (by decide +kernel)
theorem mw_261 : Cond.initialized RJ1 ∈ UW := UW_mem (by decide +kernel) (by decide +kernel)
theorem mw_262 : Cond.code yJ5_inflate_da8c8 cJ5_inflate_da8c8 2 none ∈ UW := UW_mem (by decide +kernel) (by decide +kernel)
theorem mw_263 : Cond.code yJ3_checkIndex_8e157 cJ3_checkIndex_8e157 3 (some .int) ∈ UW := UW_mem (by decide +kernel) (by decide +kernel)
theorem mw_264 : Cond.code yJ0_checkIndex_df160 cJ0_checkIndex_df160 2 none ∈ UW := UW_mem (by decide +kernel) (by decide +kernel)
theorem mw_265 : Cond.methodLink RJ0 1059 yJ3_checkIndex_8e157 ∈ UW := UW_mem (by decide +kernel) (by decide +kernel)
theorem mw_266 : Cond.static yJ3_checkIndex_8e157 ∈ UW := UW_mem (by decide +kernel) (by decide +kernel)
theorem mw_267 : Cond.code yJ2_checkIndex_2214a cJ2_checkIndex_2214a 2 none ∈ UW := UW_mem (by decide +kernel) (by decide +kernel)
theorem mw_268 : Cond.methodLink RJ2 414 yJ0_checkIndex_df160 ∈ UW := UW_mem (by decide +kernel) (by decide +kernel)
theorem mw_269 : Cond.static yJ0_checkIndex_df160 ∈ UW := UW_mem (by decide +kernel) (by decide +kernel)
theorem mw_270 : Cond.code yJ2_putCharSB_b72d1 cJ2_putCharSB_b72d1 3 none ∈ UW := UW_mem (by decide +kernel) (by decide +kernel)
theorem mw_271 : Cond.methodLink RJ2 67 yJ2_checkIndex_2214a ∈ UW := UW_mem (by decide +kernel) (by decide +kernel)
theorem mw_272 : Cond.static yJ2_checkIndex_2214a ∈ UW := UW_mem (by decide +kernel) (by decide +kernel)
theorem mw_273 : Cond.methodLink RJ5 100 ⟨"java/lang/AbstractStringBuilder", "ensureCapacityInternal", "(I)V"⟩ ∈ UW := UW_mem (by decide +kernel) (by decide +kernel)
theorem mw_276 : Cond.instanceMethod yJ5_ensureCapacityInternal_d00df ∈ UW := UW_mem (by decide +kernel) (by decide +kernel)
theorem mw_277 : Cond.methodLink RJ5 191 yJ1_canEncode_fc78d ∈ UW := UW_mem (by decide +kernel) (by decide +kernel)
theorem mw_278 : Cond.static yJ1_canEncode_fc78d ∈ UW := UW_mem (by decide +kernel) (by decide +kernel)
theorem mw_279 : Cond.methodLink RJ5 195 ⟨"java/lang/AbstractStringBuilder", "inflate", "()V"⟩ ∈ UW := UW_mem (by decide +kernel) (by decide +kernel)
theorem mw_282 : Cond.instanceMethod yJ5_inflate_da8c8 ∈ UW := UW_mem (by decide +kernel) (by decide +kernel)
theorem mw_283 : Cond.methodLink RJ5 197 yJ2_putCharSB_b72d1 ∈ UW := UW_mem (by decide +kernel) (by decide +kernel)
theorem mw_284 : Cond.static yJ2_putCharSB_b72d1 ∈ UW := UW_mem (by decide +kernel) (by decide +kernel)
theorem mw_285 : Cond.code yJ5_append_3fe6f cJ5_append_3fe6f 2 (some (.object "java/lang/AbstractStringBuilder")) ∈ UW := UW_mem (by decide +kernel) (by decide +kernel)
theorem mw_286 : Cond.methodLink RJ4 50 yJ5_append_3fe6f ∈ UW := UW_mem (by decide +kernel) (by decide +kernel)
theorem mw_288 : Cond.instanceMethod yJ5_append_3fe6f ∈ UW := UW_mem (by decide +kernel) (by decide +kernel)
theorem mw_289 : Cond.code yJ4_append_cf468 cJ4_append_cf468 2 (some (.object "java/lang/StringBuilder")) ∈ UW := UW_mem (by decide +kernel) (by decide +kernel)
theorem mw_290 : Cond.methodLink RX3 130 yJ4_length_8abf5 ∈ UW := UW_mem (by decide +kernel) (by decide +kernel)
theorem mw_291 : Cond.instanceMethod yJ4_length_8abf5 ∈ UW := UW_mem (by decide +kernel) (by decide +kernel)
theorem mw_292 : Cond.selects RJ4 yJ4_length_8abf5 yJ4_length_8abf5 ∈ UW := UW_mem (by decide +kernel) (by decide +kernel)
theorem mw_293 : Cond.methodLink RX3 136 yJ4_append_cf468 ∈ UW := UW_mem (by decide +kernel) (by decide +kernel)
theorem mw_294 : Cond.instanceMethod yJ4_append_cf468 ∈ UW := UW_mem (by decide +kernel) (by decide +kernel)
theorem mw_295 : Cond.selects RJ4 yJ4_append_cf468 yJ4_append_cf468 ∈ UW := UW_mem (by decide +kernel) (by decide +kernel)
theorem mw_296 : Cond.code yX3_type cX3_type 2 (some .int) ∈ UW := UW_mem (by decide +kernel) (by decide +kernel)
theorem mw_297 : Cond.code yJ7_rangeCheck_23922 cJ7_rangeCheck_23922 3 none ∈ UW := UW_mem (by decide +kernel) (by decide +kernel)
theorem mw_298 : Cond.classLink RJ7 45 RJ4 ∈ UW := UW_mem (by decide +kernel) (by decide +kernel)
theorem mw_299 : Cond.classLink RJ7 68 RJx00060 ∈ UW := UW_mem (by decide +kernel) (by decide +kernel)
theorem mw_300 : Cond.instantiable RJx00060 6 ∈ UW := UW_mem (by decide +kernel) (by decide +kernel)
theorem mw_301 : Cond.initialized RJx00060 ∈ UW := UW_mem (by decide +kernel) (by decide +kernel)
theorem mw_302 : Cond.code yJ7_fill_eb02e cJ7_fill_eb02e 5 none ∈ UW := UW_mem (by decide +kernel) (by decide +kernel)
theorem mw_303 : Cond.methodLink RJ7 13 yJ7_rangeCheck_23922 ∈ UW := UW_mem (by decide +kernel) (by decide +kernel)
theorem mw_304 : Cond.static yJ7_rangeCheck_23922 ∈ UW := UW_mem (by decide +kernel) (by decide +kernel)
theorem mw_305 : Cond.code yJ1_fillNull_b72d1 cJ1_fillNull_b72d1 3 none ∈ UW := UW_mem (by decide +kernel) (by decide +kernel)
theorem mw_306 : Cond.methodLink RJ1 236 yJ7_fill_eb02e ∈ UW := UW_mem (by decide +kernel) (by decide +kernel)
theorem mw_307 : Cond.static yJ7_fill_eb02e ∈ UW := UW_mem (by decide +kernel) (by decide +kernel)
theorem mw_308 : Cond.code yJ2_fillNull_b72d1 cJ2_fillNull_b72d1 3 none ∈ UW := UW_mem (by decide +kernel) (by decide +kernel)
theorem mw_309 : Cond.methodLink RJ2 380 yJ7_fill_eb02e ∈ UW := UW_mem (by decide +kernel) (by decide +kernel)
theorem mw_310 : Cond.classLink RJ5 129 RJx7c733 ∈ UW := UW_mem (by decide +kernel) (by decide +kernel)
theorem mw_311 : Cond.instantiable RJx7c733 6 ∈ UW := UW_mem (by decide +kernel) (by decide +kernel)
theorem mw_312 : Cond.initialized RJx7c733 ∈ UW := UW_mem (by decide +kernel) (by decide +kernel)
theorem mw_313 : Cond.fieldLink RJ5 73 "java/lang/AbstractStringBuilder" "maybeLatin1" "Z" ∈ UW := UW_mem (by decide +kernel) (by decide +kernel)
theorem mw_314 : Cond.methodLink RJ5 133 yJ1_fillNull_b72d1 ∈ UW := UW_mem (by decide +kernel) (by decide +kernel)
theorem mw_315 : Cond.static yJ1_fillNull_b72d1 ∈ UW := UW_mem (by decide +kernel) (by decide +kernel)
theorem mw_316 : Cond.methodLink RJ5 137 yJ2_fillNull_b72d1 ∈ UW := UW_mem (by decide +kernel) (by decide +kernel)
theorem mw_317 : Cond.static yJ2_fillNull_b72d1 ∈ UW := UW_mem (by decide +kernel) (by decide +kernel)
theorem mw_318 : Cond.code yJ5_setLength_d00df cJ5_setLength_d00df 2 none ∈ UW := UW_mem (by decide +kernel) (by decide +kernel)
theorem mw_319 : Cond.methodLink RJ4 333 yJ5_setLength_d00df ∈ UW := UW_mem (by decide +kernel) (by decide +kernel)
theorem mw_321 : Cond.instanceMethod yJ5_setLength_d00df ∈ UW := UW_mem (by decide +kernel) (by decide +kernel)
theorem mw_322 : Cond.code yJ4_setLength_d00df cJ4_setLength_d00df 2 none ∈ UW := UW_mem (by decide +kernel) (by decide +kernel)
theorem mw_323 : Cond.methodLink RX3 140 yJ4_setLength_d00df ∈ UW := UW_mem (by decide +kernel) (by decide +kernel)
theorem mw_324 : Cond.instanceMethod yJ4_setLength_d00df ∈ UW := UW_mem (by decide +kernel) (by decide +kernel)
theorem mw_325 : Cond.selects RJ4 yJ4_setLength_d00df yJ4_setLength_d00df ∈ UW := UW_mem (by decide +kernel) (by decide +kernel)
theorem mw_326 : Cond.code yX3_wipe cX3_wipe 2 (some .int) ∈ UW := UW_mem (by decide +kernel) (by decide +kernel)
theorem mw_327 : Cond.code yJ5_getValue_6d5f1 cJ5_getValue_6d5f1 1 (some (.array .byte)) ∈ UW := UW_mem (by decide +kernel) (by decide +kernel)
theorem mw_328 : Cond.code yJ7_checkLength_df160 cJ7_checkLength_df160 2 none ∈ UW := UW_mem (by decide +kernel) (by decide +kernel)
theorem mw_329 : Cond.code yJ7_copyOfRangeByte_39247 cJ7_copyOfRangeByte_39247 5 (some (.array .byte)) ∈ UW := UW_mem (by decide +kernel) (by decide +kernel)
theorem mw_330 : Cond.methodLink RJ7 343 yJ7_checkLength_df160 ∈ UW := UW_mem (by decide +kernel) (by decide +kernel)
theorem mw_331 : Cond.static yJ7_checkLength_df160 ∈ UW := UW_mem (by decide +kernel) (by decide +kernel)
theorem mw_332 : Cond.methodLink RJ7 339 yJ7_copyOfRangeByte_39247 ∈ UW := UW_mem (by decide +kernel) (by decide +kernel)
theorem mw_333 : Cond.static yJ7_copyOfRangeByte_39247 ∈ UW := UW_mem (by decide +kernel) (by decide +kernel)
theorem mw_334 : Cond.code yJ7_copyOfRange_39247 cJ7_copyOfRange_39247 3 (some (.array .byte)) ∈ UW := UW_mem (by decide +kernel) (by decide +kernel)
theorem mw_335 : Cond.code yJ2_getChar_3b067 cJ2_getChar_3b067 2 (some .char) ∈ UW := UW_mem (by decide +kernel) (by decide +kernel)
theorem mw_336 : Cond.code yJ2_compress_5af95 cJ2_compress_5af95 7 (some .int) ∈ UW := UW_mem (by decide +kernel) (by decide +kernel)
theorem mw_337 : Cond.methodLink RJ2 71 yJ2_getChar_3b067 ∈ UW := UW_mem (by decide +kernel) (by decide +kernel)
theorem mw_338 : Cond.static yJ2_getChar_3b067 ∈ UW := UW_mem (by decide +kernel) (by decide +kernel)
theorem mw_339 : Cond.methodLink RJ2 123 yJ2_compress_5af95 ∈ UW := UW_mem (by decide +kernel) (by decide +kernel)
theorem mw_340 : Cond.static yJ2_compress_5af95 ∈ UW := UW_mem (by decide +kernel) (by decide +kernel)
theorem mw_341 : Cond.methodLink RJ2 126 yJ7_copyOfRange_39247 ∈ UW := UW_mem (by decide +kernel) (by decide +kernel)
theorem mw_342 : Cond.static yJ7_copyOfRange_39247 ∈ UW := UW_mem (by decide +kernel) (by decide +kernel)
theorem mw_343 : Cond.code yJ2_compress_39247 cJ2_compress_39247 6 (some (.array .byte)) ∈ UW := UW_mem (by decide +kernel) (by decide +kernel)
theorem mw_344 : Cond.code yJ2_coderFromArrayLen_85cad cJ2_coderFromArrayLen_85cad 2 (some .byte) ∈ UW := UW_mem (by decide +kernel) (by decide +kernel)
theorem mw_345 : Cond.methodLink RJ0 1 objectInit ∈ UW := UW_mem (by decide +kernel) (by decide +kernel)
theorem mw_346 : Cond.fieldLink RJ0 15 "java/lang/String" "coder" "B" ∈ UW := UW_mem (by decide +kernel) (by decide +kernel)
theorem mw_347 : Cond.fieldLink RJ0 9 "java/lang/String" "value" "[B" ∈ UW := UW_mem (by decide +kernel) (by decide +kernel)
theorem mw_348 : Cond.fieldLink RJ0 38 "java/lang/String" "COMPACT_STRINGS" "Z" ∈ UW := UW_mem (by decide +kernel) (by decide +kernel)
theorem mw_349 : Cond.fieldLink RJ0 1048 "java/lang/AbstractStringBuilder" "maybeLatin1" "Z" ∈ UW := UW_mem (by decide +kernel) (by decide +kernel)
theorem mw_350 : Cond.methodLink RJ0 552 ⟨"java/lang/AbstractStringBuilder", "getValue", "()[B"⟩ ∈ UW := UW_mem (by decide +kernel) (by decide +kernel)
theorem mw_353 : Cond.instanceMethod yJ5_getValue_6d5f1 ∈ UW := UW_mem (by decide +kernel) (by decide +kernel)
theorem mw_354 : Cond.methodLink RJ0 549 ⟨"java/lang/AbstractStringBuilder", "length", "()I"⟩ ∈ UW := UW_mem (by decide +kernel) (by decide +kernel)
theorem mw_355 : Cond.instanceMethod ⟨"java/lang/AbstractStringBuilder", "length", "()I"⟩ ∈ UW := UW_mem (by decide +kernel) (by decide +kernel)
theorem mw_357 : Cond.methodLink RJ0 1047 ⟨"java/lang/AbstractStringBuilder", "isLatin1", "()Z"⟩ ∈ UW := UW_mem (by decide +kernel) (by decide +kernel)
theorem mw_358 : Cond.methodLink RJ0 54 yJ7_copyOfRange_39247 ∈ UW := UW_mem (by decide +kernel) (by decide +kernel)
theorem mw_359 : Cond.methodLink RJ0 1051 yJ2_compress_39247 ∈ UW := UW_mem (by decide +kernel) (by decide +kernel)
theorem mw_360 : Cond.static yJ2_compress_39247 ∈ UW := UW_mem (by decide +kernel) (by decide +kernel)
theorem mw_361 : Cond.methodLink RJ0 47 yJ2_coderFromArrayLen_85cad ∈ UW := UW_mem (by decide +kernel) (by decide +kernel)
theorem mw_362 : Cond.static yJ2_coderFromArrayLen_85cad ∈ UW := UW_mem (by decide +kernel) (by decide +kernel)
theorem mw_363 : Cond.code yJ0_init_db425 cJ0_init_db425 5 none ∈ UW := UW_mem (by decide +kernel) (by decide +kernel)
theorem mw_364 : Cond.methodLink RJ0 489 yJ0_init_db425 ∈ UW := UW_mem (by decide +kernel) (by decide +kernel)
theorem mw_365 : Cond.instanceMethod yJ0_init_db425 ∈ UW := UW_mem (by decide +kernel) (by decide +kernel)
theorem mw_366 : Cond.code yJ0_init_81219 cJ0_init_81219 2 none ∈ UW := UW_mem (by decide +kernel) (by decide +kernel)
theorem mw_367 : Cond.classLink RJ4 18 RJ0 ∈ UW := UW_mem (by decide +kernel) (by decide +kernel)
theorem mw_368 : Cond.instantiable RJ0 4 ∈ UW := UW_mem (by decide +kernel) (by decide +kernel)
theorem mw_369 : Cond.methodLink RJ4 137 yJ0_init_81219 ∈ UW := UW_mem (by decide +kernel) (by decide +kernel)
theorem mw_370 : Cond.instanceMethod yJ0_init_81219 ∈ UW := UW_mem (by decide +kernel) (by decide +kernel)
theorem mw_371 : Cond.code yJ4_toString_0e30d cJ4_toString_0e30d 1 (some (.object "java/lang/String")) ∈ UW := UW_mem (by decide +kernel) (by decide +kernel)
theorem mw_372 : Cond.code yJ1_equals_b5fdf cJ1_equals_b5fdf 3 (some .boolean) ∈ UW := UW_mem (by decide +kernel) (by decide +kernel)
theorem mw_373 : Cond.code yJ0_equals_9ea2d cJ0_equals_9ea2d 3 (some .boolean) ∈ UW := UW_mem (by decide +kernel) (by decide +kernel)
theorem mw_374 : Cond.classLink RJ0 10 "java/lang/String" ∈ UW := UW_mem (by decide +kernel) (by decide +kernel)
theorem mw_375 : Cond.methodLink RJ0 541 yJ1_equals_b5fdf ∈ UW := UW_mem (by decide +kernel) (by decide +kernel)
theorem mw_376 : Cond.static yJ1_equals_b5fdf ∈ UW := UW_mem (by decide +kernel) (by decide +kernel)
theorem mw_377 : Cond.fieldLink RX3 284 "Festivalgrid" "WISHES" "[LFestivalgrid$Wish;" ∈ UW := UW_mem (by decide +kernel) (by decide +kernel)
theorem mw_378 : Cond.methodLink RX3 280 yJ4_toString_0e30d ∈ UW := UW_mem (by decide +kernel) (by decide +kernel)
theorem mw_379 : Cond.instanceMethod yJ4_toString_0e30d ∈ UW := UW_mem (by decide +kernel) (by decide +kernel)
theorem mw_380 : Cond.selects RJ4 yJ4_toString_0e30d yJ4_toString_0e30d ∈ UW := UW_mem (by decide +kernel) (by decide +kernel)
theorem mw_381 : Cond.methodLink RX3 294 yJ0_equals_9ea2d ∈ UW := UW_mem (by decide +kernel) (by decide +kernel)
theorem mw_382 : Cond.instanceMethod yJ0_equals_9ea2d ∈ UW := UW_mem (by decide +kernel) (by decide +kernel)
theorem mw_383 : Cond.selects RJ0 yJ0_equals_9ea2d yJ0_equals_9ea2d ∈ UW := UW_mem (by decide +kernel) (by decide +kernel)
theorem mw_384 : Cond.code yX3_typedWish cX3_typedWish 6 (some (.object "Festivalgrid$Wish")) ∈ UW := UW_mem (by decide +kernel) (by decide +kernel)
theorem mw_385 : Cond.methodLink RX3 143 yX3_typedWish ∈ UW := UW_mem (by decide +kernel) (by decide +kernel)
theorem mw_386 : Cond.instanceMethod yX3_typedWish ∈ UW := UW_mem (by decide +kernel) (by decide +kernel)
theorem mw_387 : Cond.selects RX3 yX3_typedWish yX3_typedWish ∈ UW := UW_mem (by decide +kernel) (by decide +kernel)
theorem mw_388 : Cond.instanceMethod yX0_take ∈ UW := UW_mem (by decide +kernel) (by decide +kernel)
theorem mw_389 : Cond.selects RX0 yX0_take yX0_take ∈ UW := UW_mem (by decide +kernel) (by decide +kernel)
theorem mw_390 : Cond.code yX3_grant cX3_grant 7 (some .boolean) ∈ UW := UW_mem (by decide +kernel) (by decide +kernel)
theorem mw_391 : Cond.code yX3_ofAct cX3_ofAct 3 (some .int) ∈ UW := UW_mem (by decide +kernel) (by decide +kernel)
theorem mw_392 : Cond.code yX3_callOff cX3_callOff 6 none ∈ UW := UW_mem (by decide +kernel) (by decide +kernel)
theorem mw_393 : Cond.code yX3_earliestWaiting cX3_earliestWaiting 6 (some (.object "Festivalgrid$Act")) ∈ UW := UW_mem (by decide +kernel) (by decide +kernel)
theorem mw_394 : Cond.methodLink RX3 276 yX3_earliestWaiting ∈ UW := UW_mem (by decide +kernel) (by decide +kernel)
theorem mw_395 : Cond.instanceMethod yX3_earliestWaiting ∈ UW := UW_mem (by decide +kernel) (by decide +kernel)
theorem mw_396 : Cond.selects RX3 yX3_earliestWaiting yX3_earliestWaiting ∈ UW := UW_mem (by decide +kernel) (by decide +kernel)
theorem mw_397 : Cond.code yX3_replan cX3_replan 5 (some .int) ∈ UW := UW_mem (by decide +kernel) (by decide +kernel)
theorem mw_398 : Cond.fieldLink RX3 164 "Festivalgrid" "stormCount" "I" ∈ UW := UW_mem (by decide +kernel) (by decide +kernel)
theorem mw_399 : Cond.methodLink RX3 178 yX3_callOff ∈ UW := UW_mem (by decide +kernel) (by decide +kernel)
theorem mw_400 : Cond.instanceMethod yX3_callOff ∈ UW := UW_mem (by decide +kernel) (by decide +kernel)
theorem mw_401 : Cond.selects RX3 yX3_callOff yX3_callOff ∈ UW := UW_mem (by decide +kernel) (by decide +kernel)
theorem mw_402 : Cond.methodLink RX3 182 yX3_replan ∈ UW := UW_mem (by decide +kernel) (by decide +kernel)
theorem mw_403 : Cond.instanceMethod yX3_replan ∈ UW := UW_mem (by decide +kernel) (by decide +kernel)
theorem mw_404 : Cond.selects RX3 yX3_replan yX3_replan ∈ UW := UW_mem (by decide +kernel) (by decide +kernel)
theorem mw_405 : Cond.code yX3_storm cX3_storm 5 (some .int) ∈ UW := UW_mem (by decide +kernel) (by decide +kernel)
theorem mw_406 : Cond.code yX3_load cX3_load 3 (some .int) ∈ UW := UW_mem (by decide +kernel) (by decide +kernel)
theorem mw_407 : Cond.code yX3_noise cX3_noise 3 (some .int) ∈ UW := UW_mem (by decide +kernel) (by decide +kernel)
theorem mw_408 : Cond.code yX3_channels cX3_channels 2 (some .int) ∈ UW := UW_mem (by decide +kernel) (by decide +kernel)
theorem mw_409 : Cond.code yX3_isStormyAt cX3_isStormyAt 7 (some .boolean) ∈ UW := UW_mem (by decide +kernel) (by decide +kernel)
theorem mw_410 : Cond.code yX3_isHeldByAnother cX3_isHeldByAnother 8 (some .boolean) ∈ UW := UW_mem (by decide +kernel) (by decide +kernel)
theorem mw_411 : Cond.code yX3_areStagesFineAt cX3_areStagesFineAt 6 (some .boolean) ∈ UW := UW_mem (by decide +kernel) (by decide +kernel)
end
section
theorem mw_412 : Cond.methodLink RX3 239 yX3_isStormyAt ∈ UW := UW_mem (by decide +kernel) (by decide +kernel)
theorem mw_413 : Cond.instanceMethod yX3_isStormyAt ∈ UW := UW_mem (by decide +kernel) (by decide +kernel)
theorem mw_414 : Cond.selects RX3 yX3_isStormyAt yX3_isStormyAt ∈ UW := UW_mem (by decide +kernel) (by decide +kernel)
theorem mw_415 : Cond.methodLink RX3 243 yX3_isHeldByAnother ∈ UW := UW_mem (by decide +kernel) (by decide +kernel)
theorem mw_416 : Cond.instanceMethod yX3_isHeldByAnother ∈ UW := UW_mem (by decide +kernel) (by decide +kernel)
theorem mw_417 : Cond.selects RX3 yX3_isHeldByAnother yX3_isHeldByAnother ∈ UW := UW_mem (by decide +kernel) (by decide +kernel)
theorem mw_418 : Cond.methodLink RX3 196 yX3_areStagesFineAt ∈ UW := UW_mem (by decide +kernel) (by decide +kernel)
theorem mw_419 : Cond.instanceMethod yX3_areStagesFineAt ∈ UW := UW_mem (by decide +kernel) (by decide +kernel)
theorem mw_420 : Cond.selects RX3 yX3_areStagesFineAt yX3_areStagesFineAt ∈ UW := UW_mem (by decide +kernel) (by decide +kernel)
theorem mw_421 : Cond.code yX3_isFineByMinutes cX3_isFineByMinutes 5 (some .boolean) ∈ UW := UW_mem (by decide +kernel) (by decide +kernel)
theorem mw_422 : Cond.code yX4_init cX4_init 2 none ∈ UW := UW_mem (by decide +kernel) (by decide +kernel)
theorem mw_423 : Cond.methodLink RX4 1 objectInit ∈ UW := UW_mem (by decide +kernel) (by decide +kernel)
theorem mw_424 : Cond.fieldLink RX4 7 "FestivalgridModel" "begun" "[I" ∈ UW := UW_mem (by decide +kernel) (by decide +kernel)
theorem mw_425 : Cond.fieldLink RX4 13 "FestivalgridModel" "change" "[I" ∈ UW := UW_mem (by decide +kernel) (by decide +kernel)
theorem mw_426 : Cond.fieldLink RX4 16 "FestivalgridModel" "bound" "[I" ∈ UW := UW_mem (by decide +kernel) (by decide +kernel)
theorem mw_427 : Cond.fieldLink RX4 19 "FestivalgridModel" "wind" "[I" ∈ UW := UW_mem (by decide +kernel) (by decide +kernel)
theorem mw_428 : Cond.fieldLink RX4 22 "FestivalgridModel" "stage" "[I" ∈ UW := UW_mem (by decide +kernel) (by decide +kernel)
theorem mw_429 : Cond.fieldLink RX4 25 "FestivalgridModel" "start" "[I" ∈ UW := UW_mem (by decide +kernel) (by decide +kernel)
theorem mw_430 : Cond.fieldLink RX4 28 "FestivalgridModel" "length" "[I" ∈ UW := UW_mem (by decide +kernel) (by decide +kernel)
theorem mw_431 : Cond.fieldLink RX4 31 "FestivalgridModel" "phase" "[I" ∈ UW := UW_mem (by decide +kernel) (by decide +kernel)
theorem mw_432 : Cond.fieldLink RX4 34 "FestivalgridModel" "draw" "[I" ∈ UW := UW_mem (by decide +kernel) (by decide +kernel)
theorem mw_433 : Cond.fieldLink RX4 37 "FestivalgridModel" "loud" "[I" ∈ UW := UW_mem (by decide +kernel) (by decide +kernel)
theorem mw_434 : Cond.fieldLink RX4 40 "FestivalgridModel" "channel" "[I" ∈ UW := UW_mem (by decide +kernel) (by decide +kernel)
theorem mw_435 : Cond.arrayClass .boolean ∈ UW := UW_mem (by decide +kernel) (by decide +kernel)
theorem mw_436 : Cond.fieldLink RX4 43 "FestivalgridModel" "on" "[Z" ∈ UW := UW_mem (by decide +kernel) (by decide +kernel)
theorem mw_437 : Cond.fieldLink RX4 47 "FestivalgridModel" "where" "[I" ∈ UW := UW_mem (by decide +kernel) (by decide +kernel)
theorem mw_438 : Cond.fieldLink RX4 50 "FestivalgridModel" "from" "[I" ∈ UW := UW_mem (by decide +kernel) (by decide +kernel)
theorem mw_439 : Cond.fieldLink RX4 53 "FestivalgridModel" "behind" "[I" ∈ UW := UW_mem (by decide +kernel) (by decide +kernel)
theorem mw_440 : Cond.fieldLink RX4 56 "FestivalgridModel" "heard" "[I" ∈ UW := UW_mem (by decide +kernel) (by decide +kernel)
theorem mw_441 : Cond.code yX4_thrown cX4_thrown 1 (some .int) ∈ UW := UW_mem (by decide +kernel) (by decide +kernel)
theorem mw_442 : Cond.fieldLink RX4 59 "FestivalgridModel" "thrown" "I" ∈ UW := UW_mem (by decide +kernel) (by decide +kernel)
theorem mw_443 : Cond.code yX4_isIn cX4_isIn 3 (some .boolean) ∈ UW := UW_mem (by decide +kernel) (by decide +kernel)
theorem mw_444 : Cond.code yX4_isMinute cX4_isMinute 1 (some .boolean) ∈ UW := UW_mem (by decide +kernel) (by decide +kernel)
theorem mw_445 : Cond.methodLink RX4 63 yX4_isIn ∈ UW := UW_mem (by decide +kernel) (by decide +kernel)
theorem mw_446 : Cond.static yX4_isIn ∈ UW := UW_mem (by decide +kernel) (by decide +kernel)
theorem mw_447 : Cond.initialized RX4 ∈ UW := UW_mem (by decide +kernel) (by decide +kernel)
theorem mw_448 : Cond.code yX4_isThree cX4_isThree 1 (some .boolean) ∈ UW := UW_mem (by decide +kernel) (by decide +kernel)
theorem mw_449 : Cond.code yX4_plays cX4_plays 3 (some .boolean) ∈ UW := UW_mem (by decide +kernel) (by decide +kernel)
theorem mw_450 : Cond.code yX4_loaded cX4_loaded 5 (some .int) ∈ UW := UW_mem (by decide +kernel) (by decide +kernel)
theorem mw_451 : Cond.methodLink RX4 67 yX4_plays ∈ UW := UW_mem (by decide +kernel) (by decide +kernel)
theorem mw_452 : Cond.instanceMethod yX4_plays ∈ UW := UW_mem (by decide +kernel) (by decide +kernel)
theorem mw_453 : Cond.selects RX4 yX4_plays yX4_plays ∈ UW := UW_mem (by decide +kernel) (by decide +kernel)
theorem mw_454 : Cond.code yX4_noisy cX4_noisy 7 (some .int) ∈ UW := UW_mem (by decide +kernel) (by decide +kernel)
theorem mw_455 : Cond.code yX4_isPlaced cX4_isPlaced 5 (some .boolean) ∈ UW := UW_mem (by decide +kernel) (by decide +kernel)
theorem mw_456 : Cond.fieldLink RX4 71 "FestivalgridModel" "storms" "I" ∈ UW := UW_mem (by decide +kernel) (by decide +kernel)
theorem mw_457 : Cond.code yX4_isFed cX4_isFed 5 (some .boolean) ∈ UW := UW_mem (by decide +kernel) (by decide +kernel)
theorem mw_458 : Cond.fieldLink RX4 74 "FestivalgridModel" "sets" "I" ∈ UW := UW_mem (by decide +kernel) (by decide +kernel)
theorem mw_459 : Cond.methodLink RX4 77 yX4_loaded ∈ UW := UW_mem (by decide +kernel) (by decide +kernel)
theorem mw_460 : Cond.instanceMethod yX4_loaded ∈ UW := UW_mem (by decide +kernel) (by decide +kernel)
theorem mw_461 : Cond.selects RX4 yX4_loaded yX4_loaded ∈ UW := UW_mem (by decide +kernel) (by decide +kernel)
theorem mw_462 : Cond.code yX4_speaks cX4_speaks 3 (some .boolean) ∈ UW := UW_mem (by decide +kernel) (by decide +kernel)
theorem mw_463 : Cond.code yX4_isClear cX4_isClear 8 (some .boolean) ∈ UW := UW_mem (by decide +kernel) (by decide +kernel)
theorem mw_464 : Cond.methodLink RX4 81 yX4_speaks ∈ UW := UW_mem (by decide +kernel) (by decide +kernel)
theorem mw_465 : Cond.instanceMethod yX4_speaks ∈ UW := UW_mem (by decide +kernel) (by decide +kernel)
theorem mw_466 : Cond.selects RX4 yX4_speaks yX4_speaks ∈ UW := UW_mem (by decide +kernel) (by decide +kernel)
theorem mw_467 : Cond.code yX4_isQuiet cX4_isQuiet 4 (some .boolean) ∈ UW := UW_mem (by decide +kernel) (by decide +kernel)
theorem mw_468 : Cond.methodLink RX4 84 yX4_noisy ∈ UW := UW_mem (by decide +kernel) (by decide +kernel)
theorem mw_469 : Cond.instanceMethod yX4_noisy ∈ UW := UW_mem (by decide +kernel) (by decide +kernel)
theorem mw_470 : Cond.selects RX4 yX4_noisy yX4_noisy ∈ UW := UW_mem (by decide +kernel) (by decide +kernel)
theorem mw_471 : Cond.methodLink RX4 87 yX4_isPlaced ∈ UW := UW_mem (by decide +kernel) (by decide +kernel)
theorem mw_472 : Cond.instanceMethod yX4_isPlaced ∈ UW := UW_mem (by decide +kernel) (by decide +kernel)
theorem mw_473 : Cond.selects RX4 yX4_isPlaced yX4_isPlaced ∈ UW := UW_mem (by decide +kernel) (by decide +kernel)
theorem mw_474 : Cond.methodLink RX4 91 yX4_isFed ∈ UW := UW_mem (by decide +kernel) (by decide +kernel)
theorem mw_475 : Cond.instanceMethod yX4_isFed ∈ UW := UW_mem (by decide +kernel) (by decide +kernel)
theorem mw_476 : Cond.selects RX4 yX4_isFed yX4_isFed ∈ UW := UW_mem (by decide +kernel) (by decide +kernel)
theorem mw_477 : Cond.methodLink RX4 95 yX4_isClear ∈ UW := UW_mem (by decide +kernel) (by decide +kernel)
theorem mw_478 : Cond.instanceMethod yX4_isClear ∈ UW := UW_mem (by decide +kernel) (by decide +kernel)
theorem mw_479 : Cond.selects RX4 yX4_isClear yX4_isClear ∈ UW := UW_mem (by decide +kernel) (by decide +kernel)
theorem mw_480 : Cond.methodLink RX4 98 yX4_isQuiet ∈ UW := UW_mem (by decide +kernel) (by decide +kernel)
theorem mw_481 : Cond.instanceMethod yX4_isQuiet ∈ UW := UW_mem (by decide +kernel) (by decide +kernel)
theorem mw_482 : Cond.selects RX4 yX4_isQuiet yX4_isQuiet ∈ UW := UW_mem (by decide +kernel) (by decide +kernel)
theorem mw_483 : Cond.code yX4_wrong cX4_wrong 4 (some .int) ∈ UW := UW_mem (by decide +kernel) (by decide +kernel)
theorem mw_484 : Cond.code yX4_startSet cX4_startSet 3 (some .int) ∈ UW := UW_mem (by decide +kernel) (by decide +kernel)
theorem mw_485 : Cond.methodLink RX4 101 yX4_isMinute ∈ UW := UW_mem (by decide +kernel) (by decide +kernel)
theorem mw_486 : Cond.static yX4_isMinute ∈ UW := UW_mem (by decide +kernel) (by decide +kernel)
theorem mw_487 : Cond.methodLink RX4 104 yX4_isThree ∈ UW := UW_mem (by decide +kernel) (by decide +kernel)
theorem mw_488 : Cond.static yX4_isThree ∈ UW := UW_mem (by decide +kernel) (by decide +kernel)
theorem mw_489 : Cond.methodLink RX4 107 yX4_wrong ∈ UW := UW_mem (by decide +kernel) (by decide +kernel)
theorem mw_490 : Cond.instanceMethod yX4_wrong ∈ UW := UW_mem (by decide +kernel) (by decide +kernel)
theorem mw_491 : Cond.selects RX4 yX4_wrong yX4_wrong ∈ UW := UW_mem (by decide +kernel) (by decide +kernel)
theorem mw_492 : Cond.code yX4_setChange cX4_setChange 5 (some .boolean) ∈ UW := UW_mem (by decide +kernel) (by decide +kernel)
theorem mw_493 : Cond.code yX4_setBound cX4_setBound 5 (some .boolean) ∈ UW := UW_mem (by decide +kernel) (by decide +kernel)
theorem mw_494 : Cond.code yX4_setWind cX4_setWind 5 (some .boolean) ∈ UW := UW_mem (by decide +kernel) (by decide +kernel)
theorem mw_495 : Cond.fieldLink RX4 111 "FestivalgridModel" "acts" "I" ∈ UW := UW_mem (by decide +kernel) (by decide +kernel)
theorem mw_496 : Cond.code yX4_lays cX4_lays 10 (some .int) ∈ UW := UW_mem (by decide +kernel) (by decide +kernel)
theorem mw_497 : Cond.methodLink RX4 114 yX4_lays ∈ UW := UW_mem (by decide +kernel) (by decide +kernel)
theorem mw_498 : Cond.instanceMethod yX4_lays ∈ UW := UW_mem (by decide +kernel) (by decide +kernel)
theorem mw_499 : Cond.selects RX4 yX4_lays yX4_lays ∈ UW := UW_mem (by decide +kernel) (by decide +kernel)
theorem mw_500 : Cond.code yX4_plan cX4_plan 9 (some .int) ∈ UW := UW_mem (by decide +kernel) (by decide +kernel)
theorem mw_501 : Cond.code yX4_reason cX4_reason 8 (some .int) ∈ UW := UW_mem (by decide +kernel) (by decide +kernel)
theorem mw_502 : Cond.code yX4_isAct cX4_isAct 2 (some .boolean) ∈ UW := UW_mem (by decide +kernel) (by decide +kernel)
theorem mw_503 : Cond.methodLink RX4 118 yX4_isAct ∈ UW := UW_mem (by decide +kernel) (by decide +kernel)
theorem mw_504 : Cond.instanceMethod yX4_isAct ∈ UW := UW_mem (by decide +kernel) (by decide +kernel)
theorem mw_505 : Cond.selects RX4 yX4_isAct yX4_isAct ∈ UW := UW_mem (by decide +kernel) (by decide +kernel)
theorem mw_506 : Cond.code yX4_move cX4_move 5 (some .boolean) ∈ UW := UW_mem (by decide +kernel) (by decide +kernel)
theorem mw_507 : Cond.code yX4_drop cX4_drop 2 none ∈ UW := UW_mem (by decide +kernel) (by decide +kernel)
theorem mw_508 : Cond.code yX4_start cX4_start 2 (some .int) ∈ UW := UW_mem (by decide +kernel) (by decide +kernel)
theorem mw_509 : Cond.code yX4_finds cX4_finds 6 (some .int) ∈ UW := UW_mem (by decide +kernel) (by decide +kernel)
theorem mw_510 : Cond.methodLink RX4 121 yX4_finds ∈ UW := UW_mem (by decide +kernel) (by decide +kernel)
theorem mw_511 : Cond.instanceMethod yX4_finds ∈ UW := UW_mem (by decide +kernel) (by decide +kernel)
theorem mw_512 : Cond.selects RX4 yX4_finds yX4_finds ∈ UW := UW_mem (by decide +kernel) (by decide +kernel)
theorem mw_513 : Cond.code yX4_firstStart cX4_firstStart 3 (some .int) ∈ UW := UW_mem (by decide +kernel) (by decide +kernel)
theorem mw_514 : Cond.code yX4_type cX4_type 2 (some .int) ∈ UW := UW_mem (by decide +kernel) (by decide +kernel)
theorem mw_515 : Cond.fieldLink RX4 124 "FestivalgridModel" "letters" "I" ∈ UW := UW_mem (by decide +kernel) (by decide +kernel)
theorem mw_516 : Cond.fieldLink RX4 127 "FestivalgridModel" "word" "I" ∈ UW := UW_mem (by decide +kernel) (by decide +kernel)
theorem mw_517 : Cond.code yX4_wipe cX4_wipe 2 (some .int) ∈ UW := UW_mem (by decide +kernel) (by decide +kernel)
theorem mw_518 : Cond.code yX4_spelt cX4_spelt 6 (some .int) ∈ UW := UW_mem (by decide +kernel) (by decide +kernel)
theorem mw_519 : Cond.code yX4_wish cX4_wish 2 (some .int) ∈ UW := UW_mem (by decide +kernel) (by decide +kernel)
theorem mw_520 : Cond.methodLink RX4 130 yX4_spelt ∈ UW := UW_mem (by decide +kernel) (by decide +kernel)
theorem mw_521 : Cond.static yX4_spelt ∈ UW := UW_mem (by decide +kernel) (by decide +kernel)
theorem mw_522 : Cond.code yX4_bounded cX4_bounded 1 (some .int) ∈ UW := UW_mem (by decide +kernel) (by decide +kernel)
theorem mw_523 : Cond.methodLink RX4 134 yX4_wish ∈ UW := UW_mem (by decide +kernel) (by decide +kernel)
theorem mw_524 : Cond.instanceMethod yX4_wish ∈ UW := UW_mem (by decide +kernel) (by decide +kernel)
theorem mw_525 : Cond.selects RX4 yX4_wish yX4_wish ∈ UW := UW_mem (by decide +kernel) (by decide +kernel)
theorem mw_526 : Cond.methodLink RX4 137 yX4_bounded ∈ UW := UW_mem (by decide +kernel) (by decide +kernel)
theorem mw_527 : Cond.static yX4_bounded ∈ UW := UW_mem (by decide +kernel) (by decide +kernel)
theorem mw_528 : Cond.code yX4_grant cX4_grant 7 (some .boolean) ∈ UW := UW_mem (by decide +kernel) (by decide +kernel)
theorem mw_529 : Cond.code yX4_ofAct cX4_ofAct 3 (some .int) ∈ UW := UW_mem (by decide +kernel) (by decide +kernel)
theorem mw_530 : Cond.code yX4_next cX4_next 6 (some .int) ∈ UW := UW_mem (by decide +kernel) (by decide +kernel)
theorem mw_531 : Cond.methodLink RX4 141 yX4_next ∈ UW := UW_mem (by decide +kernel) (by decide +kernel)
theorem mw_532 : Cond.instanceMethod yX4_next ∈ UW := UW_mem (by decide +kernel) (by decide +kernel)
theorem mw_533 : Cond.selects RX4 yX4_next yX4_next ∈ UW := UW_mem (by decide +kernel) (by decide +kernel)
theorem mw_534 : Cond.code yX4_storm cX4_storm 10 (some .int) ∈ UW := UW_mem (by decide +kernel) (by decide +kernel)
theorem mw_535 : Cond.code yX4_load cX4_load 3 (some .int) ∈ UW := UW_mem (by decide +kernel) (by decide +kernel)
theorem mw_536 : Cond.code yX4_noise cX4_noise 3 (some .int) ∈ UW := UW_mem (by decide +kernel) (by decide +kernel)
theorem mw_537 : Cond.code yX4_channels cX4_channels 4 (some .int) ∈ UW := UW_mem (by decide +kernel) (by decide +kernel)
theorem mw_538 : Cond.code yX4_isFineByMinutes cX4_isFineByMinutes 1 (some .boolean) ∈ UW := UW_mem (by decide +kernel) (by decide +kernel)
theorem mw_539 : Cond.code yJ3_checkFromToIndex_8c36e cJ3_checkFromToIndex_8c36e 4 (some .int) ∈ UW := UW_mem (by decide +kernel) (by decide +kernel)
theorem mw_540 : Cond.code yJ0_checkBoundsBeginEnd_23922 cJ0_checkBoundsBeginEnd_23922 3 none ∈ UW := UW_mem (by decide +kernel) (by decide +kernel)
theorem mw_541 : Cond.methodLink RJ0 1062 yJ3_checkFromToIndex_8c36e ∈ UW := UW_mem (by decide +kernel) (by decide +kernel)
theorem mw_542 : Cond.static yJ3_checkFromToIndex_8c36e ∈ UW := UW_mem (by decide +kernel) (by decide +kernel)
theorem mw_543 : Cond.code yJ2_checkBoundsBeginEnd_d044e cJ2_checkBoundsBeginEnd_d044e 3 none ∈ UW := UW_mem (by decide +kernel) (by decide +kernel)
theorem mw_544 : Cond.methodLink RJ2 241 yJ0_checkBoundsBeginEnd_23922 ∈ UW := UW_mem (by decide +kernel) (by decide +kernel)
theorem mw_545 : Cond.static yJ0_checkBoundsBeginEnd_23922 ∈ UW := UW_mem (by decide +kernel) (by decide +kernel)
theorem mw_546 : Cond.code yJ2_putCharsAt_cd4e5 cJ2_putCharsAt_cd4e5 7 (some .int) ∈ UW := UW_mem (by decide +kernel) (by decide +kernel)
theorem mw_547 : Cond.methodLink RJ2 96 yJ2_checkBoundsBeginEnd_d044e ∈ UW := UW_mem (by decide +kernel) (by decide +kernel)
theorem mw_548 : Cond.static yJ2_checkBoundsBeginEnd_d044e ∈ UW := UW_mem (by decide +kernel) (by decide +kernel)
theorem mw_549 : Cond.methodLink RJ5 226 yJ2_putCharsAt_cd4e5 ∈ UW := UW_mem (by decide +kernel) (by decide +kernel)
theorem mw_550 : Cond.static yJ2_putCharsAt_cd4e5 ∈ UW := UW_mem (by decide +kernel) (by decide +kernel)
theorem mw_551 : Cond.code yJ5_appendNull_278bc cJ5_appendNull_278bc 3 (some (.object "java/lang/AbstractStringBuilder")) ∈ UW := UW_mem (by decide +kernel) (by decide +kernel)
theorem mw_552 : Cond.code yJ0_coder_7d493 cJ0_coder_7d493 1 (some .byte) ∈ UW := UW_mem (by decide +kernel) (by decide +kernel)
theorem mw_553 : Cond.code yJ0_length_8abf5 cJ0_length_8abf5 1 (some .int) ∈ UW := UW_mem (by decide +kernel) (by decide +kernel)
theorem mw_554 : Cond.methodLink RJ0 335 yJ0_coder_7d493 ∈ UW := UW_mem (by decide +kernel) (by decide +kernel)
theorem mw_555 : Cond.instanceMethod yJ0_coder_7d493 ∈ UW := UW_mem (by decide +kernel) (by decide +kernel)
theorem mw_556 : Cond.selects RJ0 yJ0_coder_7d493 yJ0_coder_7d493 ∈ UW := UW_mem (by decide +kernel) (by decide +kernel)
theorem mw_557 : Cond.methodLink RJ5 40 yJ0_coder_7d493 ∈ UW := UW_mem (by decide +kernel) (by decide +kernel)
theorem mw_558 : Cond.code yJ5_inflateIfNeededFor_a7421 cJ5_inflateIfNeededFor_a7421 2 none ∈ UW := UW_mem (by decide +kernel) (by decide +kernel)
theorem mw_559 : Cond.methodLink RJ0 212 arraycopyName ∈ UW := UW_mem (by decide +kernel) (by decide +kernel)
theorem mw_560 : Cond.methodLink RJ0 106 yJ1_inflate_0e8fd ∈ UW := UW_mem (by decide +kernel) (by decide +kernel)
theorem mw_561 : Cond.code yJ0_getBytes_840e7 cJ0_getBytes_840e7 4 none ∈ UW := UW_mem (by decide +kernel) (by decide +kernel)
theorem mw_562 : Cond.methodLink RJ5 397 ⟨"java/lang/AbstractStringBuilder", "inflateIfNeededFor", "(Ljava/lang/String;)V"⟩ ∈ UW := UW_mem (by decide +kernel) (by decide +kernel)
theorem mw_565 : Cond.instanceMethod yJ5_inflateIfNeededFor_a7421 ∈ UW := UW_mem (by decide +kernel) (by decide +kernel)
theorem mw_566 : Cond.methodLink RJ5 399 yJ0_getBytes_840e7 ∈ UW := UW_mem (by decide +kernel) (by decide +kernel)
theorem mw_567 : Cond.instanceMethod yJ0_getBytes_840e7 ∈ UW := UW_mem (by decide +kernel) (by decide +kernel)
theorem mw_568 : Cond.selects RJ0 yJ0_getBytes_840e7 yJ0_getBytes_840e7 ∈ UW := UW_mem (by decide +kernel) (by decide +kernel)
theorem mw_569 : Cond.code yJ5_putStringAt_47b60 cJ5_putStringAt_47b60 3 none ∈ UW := UW_mem (by decide +kernel) (by decide +kernel)
theorem mw_570 : Cond.methodLink RJ5 204 ⟨"java/lang/AbstractStringBuilder", "appendNull", "()Ljava/lang/AbstractStringBuilder;"⟩ ∈ UW := UW_mem (by decide +kernel) (by decide +kernel)
theorem mw_573 : Cond.instanceMethod yJ5_appendNull_278bc ∈ UW := UW_mem (by decide +kernel) (by decide +kernel)
theorem mw_574 : Cond.methodLink RJ5 32 yJ0_length_8abf5 ∈ UW := UW_mem (by decide +kernel) (by decide +kernel)
theorem mw_575 : Cond.instanceMethod yJ0_length_8abf5 ∈ UW := UW_mem (by decide +kernel) (by decide +kernel)
theorem mw_576 : Cond.selects RJ0 yJ0_length_8abf5 yJ0_length_8abf5 ∈ UW := UW_mem (by decide +kernel) (by decide +kernel)
theorem mw_577 : Cond.methodLink RJ5 208 ⟨"java/lang/AbstractStringBuilder", "putStringAt", "(ILjava/lang/String;)V"⟩ ∈ UW := UW_mem (by decide +kernel) (by decide +kernel)
theorem mw_580 : Cond.instanceMethod yJ5_putStringAt_47b60 ∈ UW := UW_mem (by decide +kernel) (by decide +kernel)
theorem mw_581 : Cond.code yJ5_append_cf1ce cJ5_append_cf1ce 3 (some (.object "java/lang/AbstractStringBuilder")) ∈ UW := UW_mem (by decide +kernel) (by decide +kernel)
theorem mw_582 : Cond.code yJ6_stringSize_0f7a4 cJ6_stringSize_0f7a4 4 (some .int) ∈ UW := UW_mem (by decide +kernel) (by decide +kernel)
theorem mw_583 : Cond.code yJ6_getChars_ba4f3 cJ6_getChars_ba4f3 7 (some .int) ∈ UW := UW_mem (by decide +kernel) (by decide +kernel)
theorem mw_584 : Cond.fieldLink RJ6 83 "java/lang/Integer" "DigitOnes" "[B" ∈ UW := UW_mem (by decide +kernel) (by decide +kernel)
theorem mw_585 : Cond.fieldLink RJ6 87 "java/lang/Integer" "DigitTens" "[B" ∈ UW := UW_mem (by decide +kernel) (by decide +kernel)
theorem mw_586 : Cond.code yJ2_getChars_ba4f3 cJ2_getChars_ba4f3 7 (some .int) ∈ UW := UW_mem (by decide +kernel) (by decide +kernel)
theorem mw_587 : Cond.fieldLink RJ2 403 "java/lang/Integer" "DigitOnes" "[B" ∈ UW := UW_mem (by decide +kernel) (by decide +kernel)
theorem mw_588 : Cond.fieldLink RJ2 407 "java/lang/Integer" "DigitTens" "[B" ∈ UW := UW_mem (by decide +kernel) (by decide +kernel)
theorem mw_589 : Cond.methodLink RJ2 393 yJ2_getChars_ba4f3 ∈ UW := UW_mem (by decide +kernel) (by decide +kernel)
theorem mw_590 : Cond.static yJ2_getChars_ba4f3 ∈ UW := UW_mem (by decide +kernel) (by decide +kernel)
theorem mw_591 : Cond.code yJ2_getChars_46870 cJ2_getChars_46870 5 (some .int) ∈ UW := UW_mem (by decide +kernel) (by decide +kernel)
theorem mw_592 : Cond.methodLink RJ5 245 yJ6_stringSize_0f7a4 ∈ UW := UW_mem (by decide +kernel) (by decide +kernel)
theorem mw_593 : Cond.static yJ6_stringSize_0f7a4 ∈ UW := UW_mem (by decide +kernel) (by decide +kernel)
theorem mw_594 : Cond.methodLink RJ5 248 yJ6_getChars_ba4f3 ∈ UW := UW_mem (by decide +kernel) (by decide +kernel)
theorem mw_595 : Cond.static yJ6_getChars_ba4f3 ∈ UW := UW_mem (by decide +kernel) (by decide +kernel)
theorem mw_596 : Cond.methodLink RJ5 251 yJ2_getChars_46870 ∈ UW := UW_mem (by decide +kernel) (by decide +kernel)
theorem mw_597 : Cond.static yJ2_getChars_46870 ∈ UW := UW_mem (by decide +kernel) (by decide +kernel)
theorem mw_598 : Cond.code yJ5_append_c97b9 cJ5_append_c97b9 4 (some (.object "java/lang/AbstractStringBuilder")) ∈ UW := UW_mem (by decide +kernel) (by decide +kernel)
theorem mw_599 : Cond.methodLink RJ4 29 yJ5_append_cf1ce ∈ UW := UW_mem (by decide +kernel) (by decide +kernel)
theorem mw_601 : Cond.instanceMethod yJ5_append_cf1ce ∈ UW := UW_mem (by decide +kernel) (by decide +kernel)
theorem mw_602 : Cond.code yJ4_append_15ec4 cJ4_append_15ec4 2 (some (.object "java/lang/StringBuilder")) ∈ UW := UW_mem (by decide +kernel) (by decide +kernel)
theorem mw_603 : Cond.methodLink RJ4 53 yJ5_append_c97b9 ∈ UW := UW_mem (by decide +kernel) (by decide +kernel)
theorem mw_605 : Cond.instanceMethod yJ5_append_c97b9 ∈ UW := UW_mem (by decide +kernel) (by decide +kernel)
theorem mw_606 : Cond.code yJ4_append_bf812 cJ4_append_bf812 2 (some (.object "java/lang/StringBuilder")) ∈ UW := UW_mem (by decide +kernel) (by decide +kernel)
theorem mw_607 : Cond.classLink RJx00060 10 RJ4 ∈ UW := UW_mem (by decide +kernel) (by decide +kernel)
theorem mw_608 : Cond.methodLink RJx00060 12 yJ4_init_da8c8 ∈ UW := UW_mem (by decide +kernel) (by decide +kernel)
theorem mw_609 : Cond.methodLink RJx00060 15 yJ4_append_15ec4 ∈ UW := UW_mem (by decide +kernel) (by decide +kernel)
theorem mw_610 : Cond.instanceMethod yJ4_append_15ec4 ∈ UW := UW_mem (by decide +kernel) (by decide +kernel)
theorem mw_611 : Cond.selects RJ4 yJ4_append_15ec4 yJ4_append_15ec4 ∈ UW := UW_mem (by decide +kernel) (by decide +kernel)
theorem mw_612 : Cond.methodLink RJx00060 19 yJ4_append_bf812 ∈ UW := UW_mem (by decide +kernel) (by decide +kernel)
theorem mw_613 : Cond.instanceMethod yJ4_append_bf812 ∈ UW := UW_mem (by decide +kernel) (by decide +kernel)
theorem mw_614 : Cond.selects RJ4 yJ4_append_bf812 yJ4_append_bf812 ∈ UW := UW_mem (by decide +kernel) (by decide +kernel)
theorem mw_615 : Cond.methodLink RJx00060 22 yJ4_toString_0e30d ∈ UW := UW_mem (by decide +kernel) (by decide +kernel)
theorem mw_616 : Cond.code yJx00060_init_d00df cJx00060_init_d00df 2 none ∈ UW := UW_mem (by decide +kernel) (by decide +kernel)
theorem mw_617 : Cond.code yJ9_abs_0f7a4 cJ9_abs_0f7a4 1 (some .int) ∈ UW := UW_mem (by decide +kernel) (by decide +kernel)
theorem mw_618 : Cond.code yJ9_max_7cf53 cJ9_max_7cf53 2 (some .int) ∈ UW := UW_mem (by decide +kernel) (by decide +kernel)
theorem mw_619 : Cond.code yJ9_min_7cf53 cJ9_min_7cf53 2 (some .int) ∈ UW := UW_mem (by decide +kernel) (by decide +kernel)
theorem mw_620 : Cond.classLink RJx7c733 10 RJ4 ∈ UW := UW_mem (by decide +kernel) (by decide +kernel)
theorem mw_621 : Cond.methodLink RJx7c733 12 yJ4_init_da8c8 ∈ UW := UW_mem (by decide +kernel) (by decide +kernel)
theorem mw_622 : Cond.methodLink RJx7c733 15 yJ4_append_15ec4 ∈ UW := UW_mem (by decide +kernel) (by decide +kernel)
theorem mw_623 : Cond.methodLink RJx7c733 19 yJ4_append_bf812 ∈ UW := UW_mem (by decide +kernel) (by decide +kernel)
theorem mw_624 : Cond.methodLink RJx7c733 22 yJ4_toString_0e30d ∈ UW := UW_mem (by decide +kernel) (by decide +kernel)
theorem mw_625 : Cond.code yJx7c733_init_d00df cJx7c733_init_d00df 2 none ∈ UW := UW_mem (by decide +kernel) (by decide +kernel)
theorem mw_626 : Cond.classLink RL 13 "java/lang/IllegalArgumentException" ∈ UW := UW_mem (by decide +kernel) (by decide +kernel)
theorem mw_627 : Cond.classLink RL 15 "java/lang/IllegalStateException" ∈ UW := UW_mem (by decide +kernel) (by decide +kernel)
theorem mw_628 : Cond.methodLink RL 7 yX3_startSet ∈ UW := UW_mem (by decide +kernel) (by decide +kernel)
theorem mw_629 : Cond.instanceMethod yX3_startSet ∈ UW := UW_mem (by decide +kernel) (by decide +kernel)
theorem mw_630 : Cond.selects RX3 yX3_startSet yX3_startSet ∈ UW := UW_mem (by decide +kernel) (by decide +kernel)
theorem mw_631 : Cond.classLink RL 21 "java/lang/IndexOutOfBoundsException" ∈ UW := UW_mem (by decide +kernel) (by decide +kernel)
theorem mw_632 : Cond.methodLink RL 17 yX3_setChange ∈ UW := UW_mem (by decide +kernel) (by decide +kernel)
theorem mw_633 : Cond.instanceMethod yX3_setChange ∈ UW := UW_mem (by decide +kernel) (by decide +kernel)
theorem mw_634 : Cond.selects RX3 yX3_setChange yX3_setChange ∈ UW := UW_mem (by decide +kernel) (by decide +kernel)
theorem mw_635 : Cond.methodLink RL 23 yX3_setBound ∈ UW := UW_mem (by decide +kernel) (by decide +kernel)
theorem mw_636 : Cond.instanceMethod yX3_setBound ∈ UW := UW_mem (by decide +kernel) (by decide +kernel)
theorem mw_637 : Cond.selects RX3 yX3_setBound yX3_setBound ∈ UW := UW_mem (by decide +kernel) (by decide +kernel)
theorem mw_638 : Cond.methodLink RL 26 yX3_setWind ∈ UW := UW_mem (by decide +kernel) (by decide +kernel)
theorem mw_639 : Cond.instanceMethod yX3_setWind ∈ UW := UW_mem (by decide +kernel) (by decide +kernel)
theorem mw_640 : Cond.selects RX3 yX3_setWind yX3_setWind ∈ UW := UW_mem (by decide +kernel) (by decide +kernel)
theorem mw_641 : Cond.methodLink RL 29 yX3_plan ∈ UW := UW_mem (by decide +kernel) (by decide +kernel)
theorem mw_642 : Cond.instanceMethod yX3_plan ∈ UW := UW_mem (by decide +kernel) (by decide +kernel)
theorem mw_643 : Cond.selects RX3 yX3_plan yX3_plan ∈ UW := UW_mem (by decide +kernel) (by decide +kernel)
theorem mw_644 : Cond.methodLink RL 33 yX3_reason ∈ UW := UW_mem (by decide +kernel) (by decide +kernel)
theorem mw_645 : Cond.instanceMethod yX3_reason ∈ UW := UW_mem (by decide +kernel) (by decide +kernel)
theorem mw_646 : Cond.selects RX3 yX3_reason yX3_reason ∈ UW := UW_mem (by decide +kernel) (by decide +kernel)
theorem mw_647 : Cond.methodLink RL 36 yX3_move ∈ UW := UW_mem (by decide +kernel) (by decide +kernel)
theorem mw_648 : Cond.instanceMethod yX3_move ∈ UW := UW_mem (by decide +kernel) (by decide +kernel)
theorem mw_649 : Cond.selects RX3 yX3_move yX3_move ∈ UW := UW_mem (by decide +kernel) (by decide +kernel)
theorem mw_650 : Cond.methodLink RL 39 yX3_drop ∈ UW := UW_mem (by decide +kernel) (by decide +kernel)
theorem mw_651 : Cond.instanceMethod yX3_drop ∈ UW := UW_mem (by decide +kernel) (by decide +kernel)
theorem mw_652 : Cond.selects RX3 yX3_drop yX3_drop ∈ UW := UW_mem (by decide +kernel) (by decide +kernel)
theorem mw_653 : Cond.methodLink RL 43 yX3_start ∈ UW := UW_mem (by decide +kernel) (by decide +kernel)
theorem mw_654 : Cond.instanceMethod yX3_start ∈ UW := UW_mem (by decide +kernel) (by decide +kernel)
theorem mw_655 : Cond.selects RX3 yX3_start yX3_start ∈ UW := UW_mem (by decide +kernel) (by decide +kernel)
theorem mw_656 : Cond.methodLink RL 46 yX3_firstStart ∈ UW := UW_mem (by decide +kernel) (by decide +kernel)
theorem mw_657 : Cond.instanceMethod yX3_firstStart ∈ UW := UW_mem (by decide +kernel) (by decide +kernel)
theorem mw_658 : Cond.selects RX3 yX3_firstStart yX3_firstStart ∈ UW := UW_mem (by decide +kernel) (by decide +kernel)
theorem mw_659 : Cond.methodLink RL 50 yX3_type ∈ UW := UW_mem (by decide +kernel) (by decide +kernel)
theorem mw_660 : Cond.instanceMethod yX3_type ∈ UW := UW_mem (by decide +kernel) (by decide +kernel)
theorem mw_661 : Cond.selects RX3 yX3_type yX3_type ∈ UW := UW_mem (by decide +kernel) (by decide +kernel)
theorem mw_662 : Cond.methodLink RL 54 yX3_grant ∈ UW := UW_mem (by decide +kernel) (by decide +kernel)
theorem mw_663 : Cond.instanceMethod yX3_grant ∈ UW := UW_mem (by decide +kernel) (by decide +kernel)
theorem mw_664 : Cond.selects RX3 yX3_grant yX3_grant ∈ UW := UW_mem (by decide +kernel) (by decide +kernel)
theorem mw_665 : Cond.methodLink RL 58 yX3_ofAct ∈ UW := UW_mem (by decide +kernel) (by decide +kernel)
theorem mw_666 : Cond.instanceMethod yX3_ofAct ∈ UW := UW_mem (by decide +kernel) (by decide +kernel)
theorem mw_667 : Cond.selects RX3 yX3_ofAct yX3_ofAct ∈ UW := UW_mem (by decide +kernel) (by decide +kernel)
theorem mw_668 : Cond.methodLink RL 61 yX3_storm ∈ UW := UW_mem (by decide +kernel) (by decide +kernel)
theorem mw_669 : Cond.instanceMethod yX3_storm ∈ UW := UW_mem (by decide +kernel) (by decide +kernel)
theorem mw_670 : Cond.selects RX3 yX3_storm yX3_storm ∈ UW := UW_mem (by decide +kernel) (by decide +kernel)
theorem mw_671 : Cond.methodLink RL 65 yX3_load ∈ UW := UW_mem (by decide +kernel) (by decide +kernel)
theorem mw_672 : Cond.instanceMethod yX3_load ∈ UW := UW_mem (by decide +kernel) (by decide +kernel)
theorem mw_673 : Cond.selects RX3 yX3_load yX3_load ∈ UW := UW_mem (by decide +kernel) (by decide +kernel)
theorem mw_674 : Cond.methodLink RL 68 yX3_noise ∈ UW := UW_mem (by decide +kernel) (by decide +kernel)
theorem mw_675 : Cond.instanceMethod yX3_noise ∈ UW := UW_mem (by decide +kernel) (by decide +kernel)
theorem mw_676 : Cond.selects RX3 yX3_noise yX3_noise ∈ UW := UW_mem (by decide +kernel) (by decide +kernel)
theorem mw_677 : Cond.methodLink RL 71 yX3_channels ∈ UW := UW_mem (by decide +kernel) (by decide +kernel)
theorem mw_678 : Cond.instanceMethod yX3_channels ∈ UW := UW_mem (by decide +kernel) (by decide +kernel)
theorem mw_679 : Cond.selects RX3 yX3_channels yX3_channels ∈ UW := UW_mem (by decide +kernel) (by decide +kernel)
theorem mw_680 : Cond.classLink RL 8 RX3 ∈ UW := UW_mem (by decide +kernel) (by decide +kernel)
theorem mw_681 : Cond.instantiable RX3 14 ∈ UW := UW_mem (by decide +kernel) (by decide +kernel)
theorem mw_682 : Cond.classLink RL 75 RX4 ∈ UW := UW_mem (by decide +kernel) (by decide +kernel)
theorem mw_683 : Cond.instantiable RX4 22 ∈ UW := UW_mem (by decide +kernel) (by decide +kernel)
theorem mw_684 : Cond.arrayClass .long ∈ UW := UW_mem (by decide +kernel) (by decide +kernel)
theorem mw_685 : Cond.methodLink RL 74 yX3_init ∈ UW := UW_mem (by decide +kernel) (by decide +kernel)
theorem mw_686 : Cond.instanceMethod yX3_init ∈ UW := UW_mem (by decide +kernel) (by decide +kernel)
theorem mw_687 : Cond.methodLink RL 77 yX4_init ∈ UW := UW_mem (by decide +kernel) (by decide +kernel)
theorem mw_688 : Cond.instanceMethod yX4_init ∈ UW := UW_mem (by decide +kernel) (by decide +kernel)
theorem mw_689 : Cond.methodLink RL 78 yL_startSet ∈ UW := UW_mem (by decide +kernel) (by decide +kernel)
theorem mw_690 : Cond.static yL_startSet ∈ UW := UW_mem (by decide +kernel) (by decide +kernel)
theorem mw_691 : Cond.initialized RL ∈ UW := UW_mem (by decide +kernel) (by decide +kernel)
theorem mw_692 : Cond.codeWith yL_startSet cL_startSet 4 (some .int) [(0, 9, 12, 13), (0, 9, 15, 15)] ∈ UW := UW_mem (by decide +kernel) (by decide +kernel)
theorem mw_693 : Cond.methodLink RL 83 yX4_startSet ∈ UW := UW_mem (by decide +kernel) (by decide +kernel)
theorem mw_694 : Cond.instanceMethod yX4_startSet ∈ UW := UW_mem (by decide +kernel) (by decide +kernel)
theorem mw_695 : Cond.selects RX4 yX4_startSet yX4_startSet ∈ UW := UW_mem (by decide +kernel) (by decide +kernel)
theorem mw_696 : Cond.methodLink RL 84 yX4_thrown ∈ UW := UW_mem (by decide +kernel) (by decide +kernel)
theorem mw_697 : Cond.instanceMethod yX4_thrown ∈ UW := UW_mem (by decide +kernel) (by decide +kernel)
theorem mw_698 : Cond.selects RX4 yX4_thrown yX4_thrown ∈ UW := UW_mem (by decide +kernel) (by decide +kernel)
theorem mw_699 : Cond.methodLink RL 88 yL_setChange ∈ UW := UW_mem (by decide +kernel) (by decide +kernel)
theorem mw_700 : Cond.static yL_setChange ∈ UW := UW_mem (by decide +kernel) (by decide +kernel)
theorem mw_701 : Cond.codeWith yL_setChange cL_setChange 5 (some .int) [(0, 17, 20, 21), (0, 17, 24, 13)] ∈ UW := UW_mem (by decide +kernel) (by decide +kernel)
theorem mw_702 : Cond.methodLink RL 91 yX4_setChange ∈ UW := UW_mem (by decide +kernel) (by decide +kernel)
theorem mw_703 : Cond.instanceMethod yX4_setChange ∈ UW := UW_mem (by decide +kernel) (by decide +kernel)
theorem mw_704 : Cond.selects RX4 yX4_setChange yX4_setChange ∈ UW := UW_mem (by decide +kernel) (by decide +kernel)
theorem mw_705 : Cond.methodLink RL 92 yL_setBound ∈ UW := UW_mem (by decide +kernel) (by decide +kernel)
theorem mw_706 : Cond.static yL_setBound ∈ UW := UW_mem (by decide +kernel) (by decide +kernel)
theorem mw_707 : Cond.codeWith yL_setBound cL_setBound 5 (some .int) [(0, 17, 20, 21), (0, 17, 24, 13)] ∈ UW := UW_mem (by decide +kernel) (by decide +kernel)
theorem mw_708 : Cond.methodLink RL 94 yX4_setBound ∈ UW := UW_mem (by decide +kernel) (by decide +kernel)
theorem mw_709 : Cond.instanceMethod yX4_setBound ∈ UW := UW_mem (by decide +kernel) (by decide +kernel)
theorem mw_710 : Cond.selects RX4 yX4_setBound yX4_setBound ∈ UW := UW_mem (by decide +kernel) (by decide +kernel)
theorem mw_711 : Cond.methodLink RL 95 yL_setWind ∈ UW := UW_mem (by decide +kernel) (by decide +kernel)
theorem mw_712 : Cond.static yL_setWind ∈ UW := UW_mem (by decide +kernel) (by decide +kernel)
theorem mw_713 : Cond.codeWith yL_setWind cL_setWind 5 (some .int) [(0, 17, 20, 21), (0, 17, 24, 13)] ∈ UW := UW_mem (by decide +kernel) (by decide +kernel)
theorem mw_714 : Cond.methodLink RL 97 yX4_setWind ∈ UW := UW_mem (by decide +kernel) (by decide +kernel)
theorem mw_715 : Cond.instanceMethod yX4_setWind ∈ UW := UW_mem (by decide +kernel) (by decide +kernel)
theorem mw_716 : Cond.selects RX4 yX4_setWind yX4_setWind ∈ UW := UW_mem (by decide +kernel) (by decide +kernel)
theorem mw_717 : Cond.methodLink RL 98 yL_plan ∈ UW := UW_mem (by decide +kernel) (by decide +kernel)
theorem mw_718 : Cond.static yL_plan ∈ UW := UW_mem (by decide +kernel) (by decide +kernel)
theorem mw_719 : Cond.codeWith yL_plan cL_plan 10 (some .int) [(0, 20, 23, 21), (0, 20, 27, 13), (0, 20, 31, 15)] ∈ UW := UW_mem (by decide +kernel) (by decide +kernel)
theorem mw_720 : Cond.methodLink RL 101 yX4_plan ∈ UW := UW_mem (by decide +kernel) (by decide +kernel)
theorem mw_721 : Cond.instanceMethod yX4_plan ∈ UW := UW_mem (by decide +kernel) (by decide +kernel)
theorem mw_722 : Cond.selects RX4 yX4_plan yX4_plan ∈ UW := UW_mem (by decide +kernel) (by decide +kernel)
theorem mw_723 : Cond.methodLink RL 102 yL_reason ∈ UW := UW_mem (by decide +kernel) (by decide +kernel)
theorem mw_724 : Cond.static yL_reason ∈ UW := UW_mem (by decide +kernel) (by decide +kernel)
theorem mw_725 : Cond.codeWith yL_reason cL_reason 10 (some .int) [(0, 20, 23, 21), (0, 20, 27, 13), (0, 20, 31, 15)] ∈ UW := UW_mem (by decide +kernel) (by decide +kernel)
theorem mw_726 : Cond.methodLink RL 104 yX4_reason ∈ UW := UW_mem (by decide +kernel) (by decide +kernel)
theorem mw_727 : Cond.instanceMethod yX4_reason ∈ UW := UW_mem (by decide +kernel) (by decide +kernel)
theorem mw_728 : Cond.selects RX4 yX4_reason yX4_reason ∈ UW := UW_mem (by decide +kernel) (by decide +kernel)
theorem mw_729 : Cond.methodLink RL 105 yL_move ∈ UW := UW_mem (by decide +kernel) (by decide +kernel)
theorem mw_730 : Cond.static yL_move ∈ UW := UW_mem (by decide +kernel) (by decide +kernel)
theorem mw_731 : Cond.codeWith yL_move cL_move 5 (some .int) [(0, 17, 20, 21), (0, 17, 24, 13), (0, 17, 28, 15)] ∈ UW := UW_mem (by decide +kernel) (by decide +kernel)
theorem mw_732 : Cond.methodLink RL 107 yX4_move ∈ UW := UW_mem (by decide +kernel) (by decide +kernel)
theorem mw_733 : Cond.instanceMethod yX4_move ∈ UW := UW_mem (by decide +kernel) (by decide +kernel)
theorem mw_734 : Cond.selects RX4 yX4_move yX4_move ∈ UW := UW_mem (by decide +kernel) (by decide +kernel)
theorem mw_735 : Cond.methodLink RL 108 yL_drop ∈ UW := UW_mem (by decide +kernel) (by decide +kernel)
theorem mw_736 : Cond.static yL_drop ∈ UW := UW_mem (by decide +kernel) (by decide +kernel)
theorem mw_737 : Cond.codeWith yL_drop cL_drop 3 (some .int) [(0, 5, 8, 21), (0, 5, 11, 15)] ∈ UW := UW_mem (by decide +kernel) (by decide +kernel)
theorem mw_738 : Cond.methodLink RL 111 yX4_drop ∈ UW := UW_mem (by decide +kernel) (by decide +kernel)
theorem mw_739 : Cond.instanceMethod yX4_drop ∈ UW := UW_mem (by decide +kernel) (by decide +kernel)
theorem mw_740 : Cond.selects RX4 yX4_drop yX4_drop ∈ UW := UW_mem (by decide +kernel) (by decide +kernel)
theorem mw_741 : Cond.methodLink RL 112 yL_start ∈ UW := UW_mem (by decide +kernel) (by decide +kernel)
theorem mw_742 : Cond.static yL_start ∈ UW := UW_mem (by decide +kernel) (by decide +kernel)
theorem mw_743 : Cond.codeWith yL_start cL_start 4 (some .int) [(0, 9, 12, 21)] ∈ UW := UW_mem (by decide +kernel) (by decide +kernel)
theorem mw_744 : Cond.methodLink RL 114 yX4_start ∈ UW := UW_mem (by decide +kernel) (by decide +kernel)
theorem mw_745 : Cond.instanceMethod yX4_start ∈ UW := UW_mem (by decide +kernel) (by decide +kernel)
theorem mw_746 : Cond.selects RX4 yX4_start yX4_start ∈ UW := UW_mem (by decide +kernel) (by decide +kernel)
theorem mw_747 : Cond.methodLink RL 115 yL_firstStart ∈ UW := UW_mem (by decide +kernel) (by decide +kernel)
theorem mw_748 : Cond.static yL_firstStart ∈ UW := UW_mem (by decide +kernel) (by decide +kernel)
theorem mw_749 : Cond.codeWith yL_firstStart cL_firstStart 5 (some .int) [(0, 10, 13, 21), (0, 10, 17, 13), (0, 10, 21, 15)] ∈ UW := UW_mem (by decide +kernel) (by decide +kernel)
theorem mw_750 : Cond.methodLink RL 117 yX4_firstStart ∈ UW := UW_mem (by decide +kernel) (by decide +kernel)
theorem mw_751 : Cond.instanceMethod yX4_firstStart ∈ UW := UW_mem (by decide +kernel) (by decide +kernel)
theorem mw_752 : Cond.selects RX4 yX4_firstStart yX4_firstStart ∈ UW := UW_mem (by decide +kernel) (by decide +kernel)
theorem mw_753 : Cond.methodLink RL 118 yL_type ∈ UW := UW_mem (by decide +kernel) (by decide +kernel)
theorem mw_754 : Cond.static yL_type ∈ UW := UW_mem (by decide +kernel) (by decide +kernel)
theorem mw_755 : Cond.codeWith yL_type cL_type 4 (some .int) [(0, 9, 12, 13), (0, 9, 15, 15)] ∈ UW := UW_mem (by decide +kernel) (by decide +kernel)
theorem mw_756 : Cond.methodLink RL 121 yX4_type ∈ UW := UW_mem (by decide +kernel) (by decide +kernel)
theorem mw_757 : Cond.instanceMethod yX4_type ∈ UW := UW_mem (by decide +kernel) (by decide +kernel)
theorem mw_758 : Cond.selects RX4 yX4_type yX4_type ∈ UW := UW_mem (by decide +kernel) (by decide +kernel)
theorem mw_759 : Cond.methodLink RL 122 yX3_wipe ∈ UW := UW_mem (by decide +kernel) (by decide +kernel)
theorem mw_760 : Cond.instanceMethod yX3_wipe ∈ UW := UW_mem (by decide +kernel) (by decide +kernel)
theorem mw_761 : Cond.selects RX3 yX3_wipe yX3_wipe ∈ UW := UW_mem (by decide +kernel) (by decide +kernel)
theorem mw_762 : Cond.methodLink RL 125 yX4_wipe ∈ UW := UW_mem (by decide +kernel) (by decide +kernel)
theorem mw_763 : Cond.instanceMethod yX4_wipe ∈ UW := UW_mem (by decide +kernel) (by decide +kernel)
theorem mw_764 : Cond.selects RX4 yX4_wipe yX4_wipe ∈ UW := UW_mem (by decide +kernel) (by decide +kernel)
theorem mw_765 : Cond.methodLink RL 126 yL_grant ∈ UW := UW_mem (by decide +kernel) (by decide +kernel)
theorem mw_766 : Cond.static yL_grant ∈ UW := UW_mem (by decide +kernel) (by decide +kernel)
theorem mw_767 : Cond.codeWith yL_grant cL_grant 4 (some .int) [(0, 16, 19, 21), (0, 16, 22, 15)] ∈ UW := UW_mem (by decide +kernel) (by decide +kernel)
theorem mw_768 : Cond.methodLink RL 128 yX4_grant ∈ UW := UW_mem (by decide +kernel) (by decide +kernel)
theorem mw_769 : Cond.instanceMethod yX4_grant ∈ UW := UW_mem (by decide +kernel) (by decide +kernel)
theorem mw_770 : Cond.selects RX4 yX4_grant yX4_grant ∈ UW := UW_mem (by decide +kernel) (by decide +kernel)
theorem mw_771 : Cond.methodLink RL 129 yL_ofAct ∈ UW := UW_mem (by decide +kernel) (by decide +kernel)
theorem mw_772 : Cond.static yL_ofAct ∈ UW := UW_mem (by decide +kernel) (by decide +kernel)
theorem mw_773 : Cond.codeWith yL_ofAct cL_ofAct 5 (some .int) [(0, 10, 13, 21)] ∈ UW := UW_mem (by decide +kernel) (by decide +kernel)
theorem mw_774 : Cond.methodLink RL 131 yX4_ofAct ∈ UW := UW_mem (by decide +kernel) (by decide +kernel)
theorem mw_775 : Cond.instanceMethod yX4_ofAct ∈ UW := UW_mem (by decide +kernel) (by decide +kernel)
theorem mw_776 : Cond.selects RX4 yX4_ofAct yX4_ofAct ∈ UW := UW_mem (by decide +kernel) (by decide +kernel)
theorem mw_777 : Cond.methodLink RL 132 yL_storm ∈ UW := UW_mem (by decide +kernel) (by decide +kernel)
theorem mw_778 : Cond.static yL_storm ∈ UW := UW_mem (by decide +kernel) (by decide +kernel)
theorem mw_779 : Cond.codeWith yL_storm cL_storm 6 (some .int) [(0, 12, 15, 21), (0, 12, 19, 13), (0, 12, 23, 15)] ∈ UW := UW_mem (by decide +kernel) (by decide +kernel)
theorem mw_780 : Cond.methodLink RL 135 yX4_storm ∈ UW := UW_mem (by decide +kernel) (by decide +kernel)
theorem mw_781 : Cond.instanceMethod yX4_storm ∈ UW := UW_mem (by decide +kernel) (by decide +kernel)
theorem mw_782 : Cond.selects RX4 yX4_storm yX4_storm ∈ UW := UW_mem (by decide +kernel) (by decide +kernel)
theorem mw_783 : Cond.methodLink RL 136 yL_load ∈ UW := UW_mem (by decide +kernel) (by decide +kernel)
theorem mw_784 : Cond.static yL_load ∈ UW := UW_mem (by decide +kernel) (by decide +kernel)
theorem mw_785 : Cond.codeWith yL_load cL_load 5 (some .int) [(0, 10, 13, 21), (0, 10, 17, 13)] ∈ UW := UW_mem (by decide +kernel) (by decide +kernel)
theorem mw_786 : Cond.methodLink RL 138 yX4_load ∈ UW := UW_mem (by decide +kernel) (by decide +kernel)
theorem mw_787 : Cond.instanceMethod yX4_load ∈ UW := UW_mem (by decide +kernel) (by decide +kernel)
theorem mw_788 : Cond.selects RX4 yX4_load yX4_load ∈ UW := UW_mem (by decide +kernel) (by decide +kernel)
theorem mw_789 : Cond.methodLink RL 139 yL_noise ∈ UW := UW_mem (by decide +kernel) (by decide +kernel)
theorem mw_790 : Cond.static yL_noise ∈ UW := UW_mem (by decide +kernel) (by decide +kernel)
theorem mw_791 : Cond.codeWith yL_noise cL_noise 5 (some .int) [(0, 10, 13, 21), (0, 10, 17, 13)] ∈ UW := UW_mem (by decide +kernel) (by decide +kernel)
theorem mw_792 : Cond.methodLink RL 141 yX4_noise ∈ UW := UW_mem (by decide +kernel) (by decide +kernel)
theorem mw_793 : Cond.instanceMethod yX4_noise ∈ UW := UW_mem (by decide +kernel) (by decide +kernel)
theorem mw_794 : Cond.selects RX4 yX4_noise yX4_noise ∈ UW := UW_mem (by decide +kernel) (by decide +kernel)
theorem mw_795 : Cond.methodLink RL 142 yL_channels ∈ UW := UW_mem (by decide +kernel) (by decide +kernel)
theorem mw_796 : Cond.static yL_channels ∈ UW := UW_mem (by decide +kernel) (by decide +kernel)
theorem mw_797 : Cond.codeWith yL_channels cL_channels 4 (some .int) [(0, 9, 12, 13)] ∈ UW := UW_mem (by decide +kernel) (by decide +kernel)
theorem mw_798 : Cond.methodLink RL 144 yX4_channels ∈ UW := UW_mem (by decide +kernel) (by decide +kernel)
theorem mw_799 : Cond.instanceMethod yX4_channels ∈ UW := UW_mem (by decide +kernel) (by decide +kernel)
theorem mw_800 : Cond.selects RX4 yX4_channels yX4_channels ∈ UW := UW_mem (by decide +kernel) (by decide +kernel)
theorem mw_801 : Cond.methodLink RL 145 yX3_isFineByMinutes ∈ UW := UW_mem (by decide +kernel) (by decide +kernel)
theorem mw_802 : Cond.instanceMethod yX3_isFineByMinutes ∈ UW := UW_mem (by decide +kernel) (by decide +kernel)
theorem mw_803 : Cond.selects RX3 yX3_isFineByMinutes yX3_isFineByMinutes ∈ UW := UW_mem (by decide +kernel) (by decide +kernel)
theorem mw_804 : Cond.methodLink RL 149 yX4_isFineByMinutes ∈ UW := UW_mem (by decide +kernel) (by decide +kernel)
theorem mw_805 : Cond.instanceMethod yX4_isFineByMinutes ∈ UW := UW_mem (by decide +kernel) (by decide +kernel)
theorem mw_806 : Cond.selects RX4 yX4_isFineByMinutes yX4_isFineByMinutes ∈ UW := UW_mem (by decide +kernel) (by decide +kernel)
end
section
/-! whole numbers as the machine's ints -/
def iz (z : Int) : Int32 := Int32.ofInt z
theorem iz_add (a b : Int) : iz a + iz b = iz (a + b) := (Int32.ofInt_add a b).symm
theorem iz_sub (a b : Int) : iz a - iz b = iz (a - b) := (Int32.ofInt_sub a b).symm
theorem iz_mul (a b : Int) : iz a * iz b = iz (a * b) := (Int32.ofInt_mul a b).symm
theorem iz_neg (a : Int) : -iz a = iz (-a) := (Int32.ofInt_neg a).symm
theorem iz_toInt {a : Int} (h : -2147483648 ≤ a ∧ a ≤ 2147483647) : (iz a).toInt = a := Int32.toInt_ofInt_of_le (by omega) (by omega)
theorem iz_le {a b : Int} (ha : -2147483648 ≤ a ∧ a ≤ 2147483647) (hb : -2147483648 ≤ b ∧ b ≤ 2147483647) : iz a ≤ iz b ↔ a ≤ b := by
  rw [Int32.le_iff_toInt_le, iz_toInt ha, iz_toInt hb]
theorem iz_lt {a b : Int} (ha : -2147483648 ≤ a ∧ a ≤ 2147483647) (hb : -2147483648 ≤ b ∧ b ≤ 2147483647) : iz a < iz b ↔ a < b := by
  rw [Int32.lt_iff_toInt_lt, iz_toInt ha, iz_toInt hb]
theorem iz_eq {a b : Int} (ha : -2147483648 ≤ a ∧ a ≤ 2147483647) (hb : -2147483648 ≤ b ∧ b ≤ 2147483647) : iz a = iz b ↔ a = b := by
  rw [← Int32.toInt_inj, iz_toInt ha, iz_toInt hb]
theorem iz_of (x : Int32) : ∃ z : Int, (-2147483648 ≤ z ∧ z ≤ 2147483647) ∧ x = iz z := ⟨x.toInt, ⟨by have := Int32.le_toInt x; omega, by have := Int32.toInt_lt x; omega⟩, (Int32.ofInt_toInt x).symm⟩
theorem iz_nI (n : Nat) : nI n = iz (n : Int) := (Int32.ofInt_eq_ofNat).symm
theorem iz_clamp {a : Int} (h : 0 ≤ a ∧ a ≤ 2147483647) : (iz a).toNatClampNeg = a.toNat := Int32.toNatClampNeg_ofInt_of_le (by omega) (by omega)
theorem iz_in {a : Int} {n : Nat} (h : 0 ≤ a ∧ a < n) (hn : (n : Int) ≤ 2147483647) : vp_in (iz a) n := vp_in_iff.mpr (by rw [iz_toInt (by omega)]; exact h)
theorem iz_r0 : -2147483648 ≤ (0 : Int) ∧ (0 : Int) ≤ 2147483647 := ⟨by decide, by decide⟩
noncomputable def b2i (P : Prop) : Int := @ite Int P (Classical.propDecidable P) 1 0
theorem b2i_t {P : Prop} (h : P) : b2i P = 1 := if_pos h
theorem b2i_f {P : Prop} (h : ¬ P) : b2i P = 0 := if_neg h
theorem b2i_1 {P : Prop} : b2i P ≠ 0 ↔ P := ⟨fun h => Classical.byContradiction fun q => h (b2i_f q), fun h => by rw [b2i_t h]; decide⟩
theorem b2i_0 {P : Prop} : b2i P = 0 ↔ ¬ P := ⟨fun h q => by rw [b2i_t q] at h; exact absurd h (by decide), b2i_f⟩
theorem b2i_rg {P : Prop} : 0 ≤ b2i P ∧ b2i P ≤ 1 := by
  rcases Classical.em P with h | h
  · rw [b2i_t h]; decide
  · rw [b2i_f h]; decide
theorem b2i_iff {P P' : Prop} (h : P ↔ P') : b2i P = b2i P' := by rw [propext h]
theorem iz_nar_z {a : Int} (h : 0 ≤ a ∧ a ≤ 1) : narrow .boolean (.int (iz a)) = .int (iz a) ∧ fits .boolean (.int (iz a)) = true := by
  rcases (show a = 0 ∨ a = 1 by omega) with rfl | rfl <;> exact ⟨by decide, by decide⟩
section ZR
variable {p : Program} {l : Launch} {e : Env} {R : Room} {s : State} {m : MethodId} {args : Array Value} {below : List Frame} {meth : Method} {c : Code} {H : Heap} {locs : List Loc} {cells slots : Nat} {Q : State → Prop}
variable {cc : ByteArray} {pc : Nat} {ls : Array Slot} {rest : List Value}
theorem zi_const (hx : p.tables.exec = Jvm.exec) (hb : c.code = cc) {n : Int} (hd : decode cc pc = .ok (.iconst n, 1))
    (k : W p l e R s m args below meth c H locs cells slots Q (F0 m (pc + 1) ls (.int (iz n) :: rest))) : W p l e R s m args below meth c H locs cells slots Q (F0 m pc ls rest) := lv_iconst hx hb hd rfl k
theorem zi_bipush (hx : p.tables.exec = Jvm.exec) (hb : c.code = cc) {n : Int} (hd : decode cc pc = .ok (.bipush n, 2)) (hv : (Int8.ofInt n).toInt32 = iz n)
    (k : W p l e R s m args below meth c H locs cells slots Q (F0 m (pc + 2) ls (.int (iz n) :: rest))) : W p l e R s m args below meth c H locs cells slots Q (F0 m pc ls rest) := lv_bipush hx hb hd hv k
theorem zi_sipush (hx : p.tables.exec = Jvm.exec) (hb : c.code = cc) {n : Int} (hd : decode cc pc = .ok (.sipush n, 3)) (hv : (Int16.ofInt n).toInt32 = iz n)
    (k : W p l e R s m args below meth c H locs cells slots Q (F0 m (pc + 3) ls (.int (iz n) :: rest))) : W p l e R s m args below meth c H locs cells slots Q (F0 m pc ls rest) := lv_sipush hx hb hd hv k
theorem zi_add (hx : p.tables.exec = Jvm.exec) (hb : c.code = cc) {a b : Int} (hd : decode cc pc = .ok (.iadd, 1))
    (k : W p l e R s m args below meth c H locs cells slots Q (F0 m (pc + 1) ls (.int (iz (a + b)) :: rest))) : W p l e R s m args below meth c H locs cells slots Q (F0 m pc ls (.int (iz b) :: .int (iz a) :: rest)) := lv_iadd hx hb hd (by rw [iz_add]; exact k)
theorem zi_sub (hx : p.tables.exec = Jvm.exec) (hb : c.code = cc) {a b : Int} (hd : decode cc pc = .ok (.isub, 1))
    (k : W p l e R s m args below meth c H locs cells slots Q (F0 m (pc + 1) ls (.int (iz (a - b)) :: rest))) : W p l e R s m args below meth c H locs cells slots Q (F0 m pc ls (.int (iz b) :: .int (iz a) :: rest)) := lv_isub hx hb hd (by rw [iz_sub]; exact k)
theorem zi_mul (hx : p.tables.exec = Jvm.exec) (hb : c.code = cc) {a b : Int} (hd : decode cc pc = .ok (.imul, 1))
    (k : W p l e R s m args below meth c H locs cells slots Q (F0 m (pc + 1) ls (.int (iz (a * b)) :: rest))) : W p l e R s m args below meth c H locs cells slots Q (F0 m pc ls (.int (iz b) :: .int (iz a) :: rest)) := lv_imul hx hb hd (by rw [iz_mul]; exact k)
theorem zi_icmp_lt (hx : p.tables.exec = Jvm.exec) (hb : c.code = cc) {a b off : Int} {tgt : Nat} (hd : decode cc pc = .ok (.if_icmp .lt off, 3)) (ht : (pc : Int) + off = (tgt : Int)) (ha : -2147483648 ≤ a ∧ a ≤ 2147483647) (hb2 : -2147483648 ≤ b ∧ b ≤ 2147483647)
    (kt : a < b → W p l e R s m args below meth c H locs cells slots Q (F0 m tgt ls rest)) (kf : b ≤ a → W p l e R s m args below meth c H locs cells slots Q (F0 m (pc + 3) ls rest)) : W p l e R s m args below meth c H locs cells slots Q (F0 m pc ls (.int (iz b) :: .int (iz a) :: rest)) :=
  lv_icmp_lt hx hb hd ht (fun h => kt ((iz_lt ha hb2).mp h)) (fun h => kf (Int.not_lt.mp fun q => h ((iz_lt ha hb2).mpr q)))
theorem zi_icmp_ge (hx : p.tables.exec = Jvm.exec) (hb : c.code = cc) {a b off : Int} {tgt : Nat} (hd : decode cc pc = .ok (.if_icmp .ge off, 3)) (ht : (pc : Int) + off = (tgt : Int)) (ha : -2147483648 ≤ a ∧ a ≤ 2147483647) (hb2 : -2147483648 ≤ b ∧ b ≤ 2147483647)
    (kt : b ≤ a → W p l e R s m args below meth c H locs cells slots Q (F0 m tgt ls rest)) (kf : a < b → W p l e R s m args below meth c H locs cells slots Q (F0 m (pc + 3) ls rest)) : W p l e R s m args below meth c H locs cells slots Q (F0 m pc ls (.int (iz b) :: .int (iz a) :: rest)) :=
  lv_icmp_ge hx hb hd ht (fun h => kt ((iz_le hb2 ha).mp h)) (fun h => kf (Int.not_le.mp fun q => h ((iz_le hb2 ha).mpr q)))
theorem zi_icmp_gt (hx : p.tables.exec = Jvm.exec) (hb : c.code = cc) {a b off : Int} {tgt : Nat} (hd : decode cc pc = .ok (.if_icmp .gt off, 3)) (ht : (pc : Int) + off = (tgt : Int)) (ha : -2147483648 ≤ a ∧ a ≤ 2147483647) (hb2 : -2147483648 ≤ b ∧ b ≤ 2147483647)
    (kt : b < a → W p l e R s m args below meth c H locs cells slots Q (F0 m tgt ls rest)) (kf : a ≤ b → W p l e R s m args below meth c H locs cells slots Q (F0 m (pc + 3) ls rest)) : W p l e R s m args below meth c H locs cells slots Q (F0 m pc ls (.int (iz b) :: .int (iz a) :: rest)) :=
  lv_icmp_gt hx hb hd ht (fun h => kt ((iz_lt hb2 ha).mp h)) (fun h => kf (Int.not_lt.mp fun q => h ((iz_lt hb2 ha).mpr q)))
theorem zi_icmp_le (hx : p.tables.exec = Jvm.exec) (hb : c.code = cc) {a b off : Int} {tgt : Nat} (hd : decode cc pc = .ok (.if_icmp .le off, 3)) (ht : (pc : Int) + off = (tgt : Int)) (ha : -2147483648 ≤ a ∧ a ≤ 2147483647) (hb2 : -2147483648 ≤ b ∧ b ≤ 2147483647)
    (kt : a ≤ b → W p l e R s m args below meth c H locs cells slots Q (F0 m tgt ls rest)) (kf : b < a → W p l e R s m args below meth c H locs cells slots Q (F0 m (pc + 3) ls rest)) : W p l e R s m args below meth c H locs cells slots Q (F0 m pc ls (.int (iz b) :: .int (iz a) :: rest)) :=
  lv_icmp_le hx hb hd ht (fun h => kt ((iz_le ha hb2).mp h)) (fun h => kf (Int.not_le.mp fun q => h ((iz_le ha hb2).mpr q)))
theorem zi_icmp_eq (hx : p.tables.exec = Jvm.exec) (hb : c.code = cc) {a b off : Int} {tgt : Nat} (hd : decode cc pc = .ok (.if_icmp .eq off, 3)) (ht : (pc : Int) + off = (tgt : Int)) (ha : -2147483648 ≤ a ∧ a ≤ 2147483647) (hb2 : -2147483648 ≤ b ∧ b ≤ 2147483647)
    (kt : a = b → W p l e R s m args below meth c H locs cells slots Q (F0 m tgt ls rest)) (kf : a ≠ b → W p l e R s m args below meth c H locs cells slots Q (F0 m (pc + 3) ls rest)) : W p l e R s m args below meth c H locs cells slots Q (F0 m pc ls (.int (iz b) :: .int (iz a) :: rest)) :=
  lv_icmp_eq hx hb hd ht (fun h => kt ((iz_eq ha hb2).mp h)) (fun h => kf fun q => h ((iz_eq ha hb2).mpr q))
theorem zi_icmp_ne (hx : p.tables.exec = Jvm.exec) (hb : c.code = cc) {a b off : Int} {tgt : Nat} (hd : decode cc pc = .ok (.if_icmp .ne off, 3)) (ht : (pc : Int) + off = (tgt : Int)) (ha : -2147483648 ≤ a ∧ a ≤ 2147483647) (hb2 : -2147483648 ≤ b ∧ b ≤ 2147483647)
    (kt : a ≠ b → W p l e R s m args below meth c H locs cells slots Q (F0 m tgt ls rest)) (kf : a = b → W p l e R s m args below meth c H locs cells slots Q (F0 m (pc + 3) ls rest)) : W p l e R s m args below meth c H locs cells slots Q (F0 m pc ls (.int (iz b) :: .int (iz a) :: rest)) :=
  lv_icmp_ne hx hb hd ht (fun h => kt fun q => h ((iz_eq ha hb2).mpr q)) (fun h => kf ((iz_eq ha hb2).mp h))
theorem zi_if_eq (hx : p.tables.exec = Jvm.exec) (hb : c.code = cc) {a off : Int} {tgt : Nat} (hd : decode cc pc = .ok (.ifCond .eq off, 3)) (ht : (pc : Int) + off = (tgt : Int)) (ha : -2147483648 ≤ a ∧ a ≤ 2147483647)
    (kt : a = 0 → W p l e R s m args below meth c H locs cells slots Q (F0 m tgt ls rest)) (kf : a ≠ 0 → W p l e R s m args below meth c H locs cells slots Q (F0 m (pc + 3) ls rest)) : W p l e R s m args below meth c H locs cells slots Q (F0 m pc ls (.int (iz a) :: rest)) :=
  lv_if_eq hx hb hd ht (fun h => kt ((iz_eq ha iz_r0).mp h)) (fun h => kf fun q => h ((iz_eq ha iz_r0).mpr q))
theorem zi_if_ne (hx : p.tables.exec = Jvm.exec) (hb : c.code = cc) {a off : Int} {tgt : Nat} (hd : decode cc pc = .ok (.ifCond .ne off, 3)) (ht : (pc : Int) + off = (tgt : Int)) (ha : -2147483648 ≤ a ∧ a ≤ 2147483647)
    (kt : a ≠ 0 → W p l e R s m args below meth c H locs cells slots Q (F0 m tgt ls rest)) (kf : a = 0 → W p l e R s m args below meth c H locs cells slots Q (F0 m (pc + 3) ls rest)) : W p l e R s m args below meth c H locs cells slots Q (F0 m pc ls (.int (iz a) :: rest)) :=
  lv_if_ne hx hb hd ht (fun h => kt fun q => h ((iz_eq ha iz_r0).mpr q)) (fun h => kf ((iz_eq ha iz_r0).mp h))
theorem zi_if_lt (hx : p.tables.exec = Jvm.exec) (hb : c.code = cc) {a off : Int} {tgt : Nat} (hd : decode cc pc = .ok (.ifCond .lt off, 3)) (ht : (pc : Int) + off = (tgt : Int)) (ha : -2147483648 ≤ a ∧ a ≤ 2147483647)
    (kt : a < 0 → W p l e R s m args below meth c H locs cells slots Q (F0 m tgt ls rest)) (kf : 0 ≤ a → W p l e R s m args below meth c H locs cells slots Q (F0 m (pc + 3) ls rest)) : W p l e R s m args below meth c H locs cells slots Q (F0 m pc ls (.int (iz a) :: rest)) :=
  lv_if_lt hx hb hd ht (fun h => kt ((iz_lt ha iz_r0).mp h)) (fun h => kf (Int.not_lt.mp fun q => h ((iz_lt ha iz_r0).mpr q)))
theorem zi_if_ge (hx : p.tables.exec = Jvm.exec) (hb : c.code = cc) {a off : Int} {tgt : Nat} (hd : decode cc pc = .ok (.ifCond .ge off, 3)) (ht : (pc : Int) + off = (tgt : Int)) (ha : -2147483648 ≤ a ∧ a ≤ 2147483647)
    (kt : 0 ≤ a → W p l e R s m args below meth c H locs cells slots Q (F0 m tgt ls rest)) (kf : a < 0 → W p l e R s m args below meth c H locs cells slots Q (F0 m (pc + 3) ls rest)) : W p l e R s m args below meth c H locs cells slots Q (F0 m pc ls (.int (iz a) :: rest)) :=
  lv_if_ge hx hb hd ht (fun h => kt ((iz_le iz_r0 ha).mp h)) (fun h => kf (Int.not_le.mp fun q => h ((iz_le iz_r0 ha).mpr q)))
theorem zi_if_gt (hx : p.tables.exec = Jvm.exec) (hb : c.code = cc) {a off : Int} {tgt : Nat} (hd : decode cc pc = .ok (.ifCond .gt off, 3)) (ht : (pc : Int) + off = (tgt : Int)) (ha : -2147483648 ≤ a ∧ a ≤ 2147483647)
    (kt : 0 < a → W p l e R s m args below meth c H locs cells slots Q (F0 m tgt ls rest)) (kf : a ≤ 0 → W p l e R s m args below meth c H locs cells slots Q (F0 m (pc + 3) ls rest)) : W p l e R s m args below meth c H locs cells slots Q (F0 m pc ls (.int (iz a) :: rest)) :=
  lv_if_gt hx hb hd ht (fun h => kt ((iz_lt iz_r0 ha).mp h)) (fun h => kf (Int.not_lt.mp fun q => h ((iz_lt iz_r0 ha).mpr q)))
theorem zi_if_le (hx : p.tables.exec = Jvm.exec) (hb : c.code = cc) {a off : Int} {tgt : Nat} (hd : decode cc pc = .ok (.ifCond .le off, 3)) (ht : (pc : Int) + off = (tgt : Int)) (ha : -2147483648 ≤ a ∧ a ≤ 2147483647)
    (kt : a ≤ 0 → W p l e R s m args below meth c H locs cells slots Q (F0 m tgt ls rest)) (kf : 0 < a → W p l e R s m args below meth c H locs cells slots Q (F0 m (pc + 3) ls rest)) : W p l e R s m args below meth c H locs cells slots Q (F0 m pc ls (.int (iz a) :: rest)) :=
  lv_if_le hx hb hd ht (fun h => kt ((iz_le ha iz_r0).mp h)) (fun h => kf (Int.not_le.mp fun q => h ((iz_le ha iz_r0).mpr q)))
end ZR
end
section
/-! a world of a fixed shape: n cells at h 0 .. h (n-1), what each holds by a function -/
abbrev vwCl : List vw_C := [(RJ0, TJ0, 4), (RJ4, TJ4, 4), (RJx00060, TJx00060, 6), (RJx7c733, TJx7c733, 6), (RX0, TX0, 9), (RX1, TX1, 3), (RX3, TX3, 14), (RX4, TX4, 22)]
def wN (n : Nat) (h : Nat → Nat) (g : Nat → va_E) : va_W := (List.range n).map (fun k => (h k, g k))
theorem wN_at {n k : Nat} {h : Nat → Nat} {g : Nat → va_E} (hk : k < n) : (wN n h g)[k]? = some (h k, g k) := by
  unfold wN
  rw [List.getElem?_map, List.getElem?_range hk]
  rfl
theorem wN_len {n : Nat} {h : Nat → Nat} {g : Nat → va_E} : (wN n h g).length = n := by simp [wN]
theorem wN_lt {n k : Nat} {h : Nat → Nat} {g : Nat → va_E} {q : Nat × va_E} (h1 : (wN n h g)[k]? = some q) : k < n ∧ q = (h k, g k) := by
  have hl := (List.getElem?_eq_some_iff.mp h1).1
  rw [wN_len] at hl
  rw [wN_at hl] at h1
  exact ⟨hl, (Option.some.inj h1).symm⟩
theorem wN_set {n k : Nat} {h : Nat → Nat} {g g' : Nat → va_E} {e : va_E} (hk : k < n) (he : g' k = e) (ho : ∀ j, j < n → j ≠ k → g' j = g j) : (wN n h g).set k (h k, e) = wN n h g' := by
  apply List.ext_getElem?
  intro i
  by_cases hi : i < n
  · by_cases hik : i = k
    · subst hik
      rw [List.getElem?_set_self (by rw [wN_len]; exact hk), wN_at hk, he]
    · rw [List.getElem?_set_ne (Ne.symm hik), wN_at hi, wN_at hi, ho i hi hik]
  · rw [List.getElem?_eq_none (by rw [List.length_set, wN_len]; omega), List.getElem?_eq_none (by rw [wN_len]; omega)]
def zD (A : Nat → Prop) (n : Nat) (h : Nat → Nat) : Prop := (∀ i j, i < n → j < n → h i = h j → i = j) ∧ ∀ k, k < n → A (h k)
theorem zD.va {A : Nat → Prop} {n : Nat} {h : Nat → Nat} (hz : zD A n h) (g : Nat → va_E) : va_D A (wN n h g) :=
  ⟨fun i j p q hp hq he => by
    obtain ⟨hi, rfl⟩ := wN_lt hp
    obtain ⟨hj, rfl⟩ := wN_lt hq
    exact hz.1 i j hi hj he, fun k q hq => by
    obtain ⟨hk, rfl⟩ := wN_lt hq
    exact hz.2 k hk⟩
def zA (n : Nat) (h : Nat → Nat) (sz : Nat) : Nat → Prop := fun q => (∃ k, k < n ∧ h k = q) ∨ sz ≤ q
theorem zD.self {n : Nat} {h : Nat → Nat} (hi : ∀ i j, i < n → j < n → h i = h j → i = j) (sz : Nat) : zD (zA n h sz) n h := ⟨hi, fun k hk => Or.inl ⟨k, hk, rfl⟩⟩
theorem zA_new {n : Nat} {h : Nat → Nat} {sz : Nat} : ∀ q, sz ≤ q → zA n h sz q := fun _ h => Or.inr h
theorem zA_sub {A : Nat → Prop} {n : Nat} {h : Nat → Nat} {H0 H : Heap} {locs : List Loc} (hz : zD A n h) (hA : ∀ q, H0.size ≤ q → A q) (hS : va_S A H0 H locs) : ∀ q, zA n h H.size q → A q := by
  rintro q (⟨k, hk, rfl⟩ | hq)
  · exact hz.2 k hk
  · exact hA q (Nat.le_trans hS.1 hq)
def zK (D : va_G) (tys : List (ClassId × FieldType)) (U : State) : Prop := va_K D vwCl tys U ∧ ∀ w ∈ NW, va_Nw w U
theorem zK.warm {D : va_G} {tys : List (ClassId × FieldType)} {s U : State} (hW : s.WarmedH U.vm) (h : zK D tys s) : zK D tys U := ⟨va_K.moved hW.alike h.1, fun w hw => NW_warm (NW_is hw) hW (h.2 w hw)⟩
theorem zK.same {D : va_G} {tys : List (ClassId × FieldType)} {s U : State} (hv : s.vm = U.vm) (h : zK D tys s) : zK D tys U := ⟨va_K.moved (by rw [hv]; exact Vm.Alike.refl U.vm) h.1, fun w hw => va_Nw.same (NW_on (NW_is hw)) hv (h.2 w hw)⟩
def zB (n : Nat) (h : Nat → Nat) (D : va_G) (g : Nat → va_E) (H : Heap) : Prop := va_P D vwCl (wN n h g) H
def zP (av : List Value) (n : Nat) (h : Nat → Nat) (D : va_G) (tys : List (ClassId × FieldType)) (sz : Nat) (g : Nat → va_E) : Array Value → State → Prop := va_Pc av (fun U => U.heap.size = sz ∧ zB n h D g U.heap ∧ zK D tys U)
theorem zP_blind {av : List Value} {n : Nat} {h : Nat → Nat} {D : va_G} {tys : List (ClassId × FieldType)} {sz : Nat} {g : Nat → va_E} : FrameBlind (zP av n h D tys sz g) := fun a U f mk q => by
  obtain ⟨h0, h1, h2, h3⟩ := q
  exact ⟨h0, h1, h2, zK.same (s := U) (U := U.calling f mk a) rfl h3⟩
/-- a method that returns an int (a boolean), in a world of n cells; it makes none -/
def zMi {S : Type} (l : Launch) (y : MethodName) (cy : ByteArray) (maxL : Nat) (ret : Option FieldType) (fr lo : Nat) (av : List Value) (n : Nat) (h : Nat → Nat) (D : va_G) (tys : List (ClassId × FieldType)) (g : Nat → va_E) (w : S → Nat → va_E) (P : Int → S → Prop) : Prop :=
  ∀ sz, Met l y (Cond.code y cy maxL ret :: UW) { frames := fr, cells := 0, slots := 0, locals := lo } (zP av n h D tys sz g) (va_Qi (fun r (u : Int × S) => r = iz u.1 ∧ P u.1 u.2) (fun u t => zB n h D (w u.2) t.heap) (zA n h sz)) 0 0 (zA n h sz)
def zMv {S : Type} (l : Launch) (y : MethodName) (cy : ByteArray) (maxL : Nat) (ret : Option FieldType) (fr lo : Nat) (av : List Value) (n : Nat) (h : Nat → Nat) (D : va_G) (tys : List (ClassId × FieldType)) (g : Nat → va_E) (w : S → Nat → va_E) (P : S → Prop) : Prop :=
  ∀ sz, Met l y (Cond.code y cy maxL ret :: UW) { frames := fr, cells := 0, slots := 0, locals := lo } (zP av n h D tys sz g) (va_Qv (fun u : S => P u) (fun u t => zB n h D (w u) t.heap) (zA n h sz)) 0 0 (zA n h sz)
def zMq {S : Type} (l : Launch) (y : MethodName) (cy : ByteArray) (maxL : Nat) (ret : Option FieldType) (fr lo : Nat) (av : List Value) (n : Nat) (h : Nat → Nat) (D : va_G) (tys : List (ClassId × FieldType)) (g : Nat → va_E) (w : S → Nat → va_E) (P : Option Nat → S → Prop) : Prop :=
  ∀ sz, Met l y (Cond.code y cy maxL ret :: UW) { frames := fr, cells := 0, slots := 0, locals := lo } (zP av n h D tys sz g) (va_Qq (fun r (u : Option Nat × S) => r = u.1.map h ∧ P u.1 u.2) (fun u t => zB n h D (w u.2) t.heap) (zA n h sz)) 0 0 (zA n h sz)
/-- what stands at a method's entry -/
def zE (p : Program) (s : State) (m : MethodId) (meth : Method) (c : Code) (y : MethodName) (cy : ByteArray) (maxL : Nat) (ret : Option FieldType) (av : List Value) (D : va_G) (tys : List (ClassId × FieldType)) : Prop :=
  CallFix p m c cy maxL s av.toArray UW y.cls ∧ meth.sig.returnType = ret ∧ meth.locks = false ∧ zK D tys s
theorem zM_of {l : Launch} {y : MethodName} {cy : ByteArray} {maxL : Nat} {ret : Option FieldType} {rm : Room} {av : List Value} {n : Nat} {h : Nat → Nat} {D : va_G} {tys : List (ClassId × FieldType)} {g : Nat → va_E} {Qc : Nat → Array Value → State → Outcome → State → Prop} {mc ms : Nat}
    (hy : plainName y.cls = true) (hn : (lg_sl av).length ≤ maxL)
    (body : ∀ (p : Program) (e : Env) (s : State) (m : MethodId) (below : List Frame) (meth : Method) (c : Code) (ls : Array Slot), zE p s m meth c y cy maxL ret av D tys → zB n h D g s.heap → lv_has ls maxL (lv_args 0 av) →
      W p l e rm s m av.toArray below meth c s.heap [] 0 0 (MQ below (Qc s.heap.size) av.toArray s mc ms (zA n h s.heap.size)) (F0 m 0 ls [])) :
    ∀ sz, Met l y (Cond.code y cy maxL ret :: UW) rm (zP av n h D tys sz g) (Qc sz) mc ms (zA n h sz) := by
  intro sz
  refine Met.ofW (cc := cy) (maxL := maxL) (ret := ret) hy rfl ?_
  intro p e s m args below meth c s₁ B hml hv
  obtain ⟨rfl, hsz, hP, hK⟩ := hv
  subst hsz
  rw [lg_entry_eq]
  exact body p e s m below meth c _ ⟨⟨B.exec, B.bytes, hml, findClass_of_methodNamed B.named, fun w hw => atoms_spec (ws := _ :: UW) B.pre w (List.mem_cons_of_mem _ hw)⟩, B.returns, B.notSynchronized, hK⟩ hP (lv_entry av hn)
section ZW
variable {p : Program} {l : Launch} {e : Env} {R : Room} {s : State} {m : MethodId} {args : Array Value} {below : List Frame} {meth : Method} {c : Code} {H : Heap} {locs : List Loc} {cells slots : Nat} {Q : State → Prop}
variable {cc : ByteArray} {nL pc : Nat} {own : String} {ls : Array Slot} {rest : List Value} {A : Nat → Prop} {n : Nat} {h : Nat → Nat} {D : va_G} {tys : List (ClassId × FieldType)} {g : Nat → va_E}
theorem z_get (hF : CallFix p m c cc nL s args UW own) (hK : zK D tys s) (hP : zB n h D g H) {C : String} {T : u_T} {N ci idx k : Nat} {fs : List Value} (hk : k < n) (hg : g k = .inr (ci, fs)) (hc : vwCl[ci]? = some (C, T, N)) (hin : ∀ w ∈ u_ws C T N, w ∈ UW) (j : Nat) (hj : j < N)
    (hlink : Cond.fieldLink own idx (T j).1 (T j).2.1 (T j).2.2.1 ∈ UW) {v : Value} (hv : fs[j]? = some v) (hd : decode cc pc = .ok (.getfield idx, 3))
    (kk : W p l e R s m args below meth c H locs cells slots Q (F0 m (pc + 3) ls (v :: rest))) : W p l e R s m args below meth c H locs cells slots Q (F0 m pc ls (.ref (h k) :: rest)) :=
  va_get hF.1 hF.2.1 hF.2.2.2.2 hin hF.2.2.2.1 hK.1 hP k (by rw [wN_at hk, hg]) hc j hj (hF.2.2.2.2 _ hlink) (fun _ q => q) hv hd kk
theorem z_getN (hF : CallFix p m c cc nL s args UW own) (hK : zK D tys s) (hP : zB n h D g H) {C host : String} {T : u_T} {N ci idx k : Nat} {fs : List Value} (hk : k < n) (hg : g k = .inr (ci, fs)) (hc : vwCl[ci]? = some (C, T, N)) (hin : ∀ w ∈ u_ws C T N, w ∈ UW) (j : Nat) (hj : j < N)
    (hlink : Cond.fieldLinkNest own idx (T j).1 (T j).2.1 (T j).2.2.1 host ∈ NW) {v : Value} (hv : fs[j]? = some v) (hd : decode cc pc = .ok (.getfield idx, 3))
    (kk : W p l e R s m args below meth c H locs cells slots Q (F0 m (pc + 3) ls (v :: rest))) : W p l e R s m args below meth c H locs cells slots Q (F0 m pc ls (.ref (h k) :: rest)) :=
  va_getN hF.1 hF.2.1 hF.2.2.2.2 hin hF.2.2.2.1 hK.1 hP k (by rw [wN_at hk, hg]) hc j hj (va_Nw.use rfl (hK.2 _ hlink)) (fun _ q => q) hv hd kk
theorem z_put (hF : CallFix p m c cc nL s args UW own) (hK : zK D tys s) (hz : zD A n h) (hP : zB n h D g H) (hS : va_S A s.heap H locs) {C : String} {T : u_T} {N ci idx k : Nat} {fs : List Value} (hk : k < n) (hg : g k = .inr (ci, fs)) (hc : vwCl[ci]? = some (C, T, N)) (hin : ∀ w ∈ u_ws C T N, w ∈ UW)
    {ty0 : Nat → FieldType} (hty : ∀ k, k < N → parseFieldDescriptor (T k).2.2.1 = some (ty0 k)) (hnm : ∀ a, a < N → ∀ b, b < N → a ≠ b → (T a).2.1 ≠ (T b).2.1) (j : Nat) (hj : j < N)
    (hlink : Cond.fieldLink own idx (T j).1 (T j).2.1 (T j).2.2.1 ∈ UW) (hfin : (T j).2.2.2 = false) {v : Value} (hn : narrow (ty0 j) v = v ∧ fits (ty0 j) v = true) (hl : j < fs.length) {g' : Nat → va_E} (hg' : g' k = .inr (ci, fs.set j v)) (ho : ∀ i, i < n → i ≠ k → g' i = g i) (hd : decode cc pc = .ok (.putfield idx, 3))
    (kk : ∀ (H1 : Heap) (locs1 : List Loc), zB n h D g' H1 → va_S A s.heap H1 locs1 → W p l e R s m args below meth c H1 locs1 cells slots Q (F0 m (pc + 3) ls rest)) : W p l e R s m args below meth c H locs cells slots Q (F0 m pc ls (v :: .ref (h k) :: rest)) :=
  va_put hF.1 hF.2.1 hF.2.2.2.2 hin ty0 hty hnm hF.2.2.2.1 hK.1 hP (hz.va g) hS k (by rw [wN_at hk, hg]) hc j hj (hF.2.2.2.2 _ hlink) (fun _ q => q) hfin (hty j hj) hn.1 hn.2 hl hd
    (fun H1 locs1 h1 _ h3 => kk H1 locs1 (by unfold zB; rw [← wN_set hk hg' ho]; exact h1) h3)
theorem z_putN (hF : CallFix p m c cc nL s args UW own) (hK : zK D tys s) (hz : zD A n h) (hP : zB n h D g H) (hS : va_S A s.heap H locs) {C host : String} {T : u_T} {N ci idx k : Nat} {fs : List Value} (hk : k < n) (hg : g k = .inr (ci, fs)) (hc : vwCl[ci]? = some (C, T, N)) (hin : ∀ w ∈ u_ws C T N, w ∈ UW)
    {ty0 : Nat → FieldType} (hty : ∀ k, k < N → parseFieldDescriptor (T k).2.2.1 = some (ty0 k)) (hnm : ∀ a, a < N → ∀ b, b < N → a ≠ b → (T a).2.1 ≠ (T b).2.1) (j : Nat) (hj : j < N)
    (hlink : Cond.fieldLinkNest own idx (T j).1 (T j).2.1 (T j).2.2.1 host ∈ NW) (hfin : (T j).2.2.2 = false) {v : Value} (hn : narrow (ty0 j) v = v ∧ fits (ty0 j) v = true) (hl : j < fs.length) {g' : Nat → va_E} (hg' : g' k = .inr (ci, fs.set j v)) (ho : ∀ i, i < n → i ≠ k → g' i = g i) (hd : decode cc pc = .ok (.putfield idx, 3))
    (kk : ∀ (H1 : Heap) (locs1 : List Loc), zB n h D g' H1 → va_S A s.heap H1 locs1 → W p l e R s m args below meth c H1 locs1 cells slots Q (F0 m (pc + 3) ls rest)) : W p l e R s m args below meth c H locs cells slots Q (F0 m pc ls (v :: .ref (h k) :: rest)) :=
  va_putN hF.1 hF.2.1 hF.2.2.2.2 hin ty0 hty hnm hF.2.2.2.1 hK.1 hP (hz.va g) hS k (by rw [wN_at hk, hg]) hc j hj (va_Nw.use rfl (hK.2 _ hlink)) (fun _ q => q) hfin (hty j hj) hn.1 hn.2 hl hd
    (fun H1 locs1 h1 _ h3 => kk H1 locs1 (by unfold zB; rw [← wN_set hk hg' ho]; exact h1) h3)
theorem z_iald (hF : CallFix p m c cc nL s args UW own) (hK : zK D tys s) (hP : zB n h D g H) {k len : Nat} {cA : ClassId} {f : Nat → Int32} (hk : k < n) (hg : g k = .inl (cA, len, .inl f)) (t0 : Nat) (ht : tys[t0]? = some (cA, .int)) {i : Int} (j : Nat) (hj : i = (j : Int)) (hlt : j < len) (hn : len ≤ 1000) {x : Int32} (hx : f j = x) (hd : decode cc pc = .ok (.iaload, 1))
    (kk : W p l e R s m args below meth c H locs cells slots Q (F0 m (pc + 1) ls (.int x :: rest))) : W p l e R s m args below meth c H locs cells slots Q (F0 m pc ls (.int (iz i) :: .ref (h k) :: rest)) := by
  subst hj hx
  refine va_iald hF.1 hF.2.1 hK.1 hP k t0 (by rw [wN_at hk, hg]) ht (iz_in (by omega) (by omega)) hd ?_
  rw [iz_clamp (by omega), Int.toNat_natCast]
  exact kk
theorem z_zald (hF : CallFix p m c cc nL s args UW own) (hK : zK D tys s) (hP : zB n h D g H) {k len : Nat} {cA : ClassId} {f : Nat → Int32} (hk : k < n) (hg : g k = .inl (cA, len, .inl f)) (t0 : Nat) (ht : tys[t0]? = some (cA, .boolean)) {i : Int} (j : Nat) (hj : i = (j : Int)) (hlt : j < len) (hn : len ≤ 1000) {x : Int32} (hx : f j = x) (hd : decode cc pc = .ok (.baload, 1))
    (kk : W p l e R s m args below meth c H locs cells slots Q (F0 m (pc + 1) ls (.int x :: rest))) : W p l e R s m args below meth c H locs cells slots Q (F0 m pc ls (.int (iz i) :: .ref (h k) :: rest)) := by
  subst hj hx
  refine va_zald hF.1 hF.2.1 hK.1 hP k t0 (by rw [wN_at hk, hg]) ht (iz_in (by omega) (by omega)) hd ?_
  rw [iz_clamp (by omega), Int.toNat_natCast]
  exact kk
theorem z_aald (hF : CallFix p m c cc nL s args UW own) (hK : zK D tys s) (hP : zB n h D g H) {k len : Nat} {cA : ClassId} {C : String} {f : Nat → Option Nat} (hk : k < n) (hg : g k = .inl (cA, len, .inr (.inr (.inr (.inr f))))) (t0 : Nat) (ht : tys[t0]? = some (cA, .object C)) {i : Int} (j : Nat) (hj : i = (j : Int)) (hlt : j < len) (hn : len ≤ 1000) {a : Nat} (hx : f j = some a) (hd : decode cc pc = .ok (.aaload, 1))
    (kk : W p l e R s m args below meth c H locs cells slots Q (F0 m (pc + 1) ls (.ref a :: rest))) : W p l e R s m args below meth c H locs cells slots Q (F0 m pc ls (.int (iz i) :: .ref (h k) :: rest)) := by
  subst hj
  refine va_aldq hF.1 hF.2.1 hK.1 hP k t0 (by rw [wN_at hk, hg]) ht (iz_in (by omega) (by omega)) hd ?_
  rw [iz_clamp (by omega), Int.toNat_natCast, hx]
  exact kk
theorem z_iast (hF : CallFix p m c cc nL s args UW own) (hK : zK D tys s) (hz : zD A n h) (hP : zB n h D g H) (hS : va_S A s.heap H locs) {k len : Nat} {cA : ClassId} {f : Nat → Int32} (hk : k < n) (hg : g k = .inl (cA, len, .inl f)) (t0 : Nat) (ht : tys[t0]? = some (cA, .int)) {i : Int} (j : Nat) (hj : i = (j : Int)) (hlt : j < len) (hn : len ≤ 1000) {x : Int32} {g' : Nat → va_E} (hg' : g' k = .inl (cA, len, .inl (upd f j x))) (ho : ∀ i, i < n → i ≠ k → g' i = g i) (hd : decode cc pc = .ok (.iastore, 1))
    (kk : ∀ (H1 : Heap) (locs1 : List Loc), zB n h D g' H1 → va_S A s.heap H1 locs1 → W p l e R s m args below meth c H1 locs1 cells slots Q (F0 m (pc + 1) ls rest)) : W p l e R s m args below meth c H locs cells slots Q (F0 m pc ls (.int x :: .int (iz i) :: .ref (h k) :: rest)) := by
  subst hj
  refine va_iast hF.1 hF.2.1 hK.1 hP (hz.va g) hS k t0 (by rw [wN_at hk, hg]) ht (iz_in (by omega) (by omega)) hd ?_
  rw [iz_clamp (by omega), Int.toNat_natCast]
  exact fun H1 locs1 h1 _ h3 => kk H1 locs1 (by unfold zB; rw [← wN_set hk hg' ho]; exact h1) h3
theorem z_zast (hF : CallFix p m c cc nL s args UW own) (hK : zK D tys s) (hz : zD A n h) (hP : zB n h D g H) (hS : va_S A s.heap H locs) {k len : Nat} {cA : ClassId} {f : Nat → Int32} (hk : k < n) (hg : g k = .inl (cA, len, .inl f)) (t0 : Nat) (ht : tys[t0]? = some (cA, .boolean)) {i : Int} (j : Nat) (hj : i = (j : Int)) (hlt : j < len) (hn : len ≤ 1000) {x : Int} (hx : 0 ≤ x ∧ x ≤ 1) {g' : Nat → va_E} (hg' : g' k = .inl (cA, len, .inl (upd f j (iz x)))) (ho : ∀ i, i < n → i ≠ k → g' i = g i) (hd : decode cc pc = .ok (.bastore, 1))
    (kk : ∀ (H1 : Heap) (locs1 : List Loc), zB n h D g' H1 → va_S A s.heap H1 locs1 → W p l e R s m args below meth c H1 locs1 cells slots Q (F0 m (pc + 1) ls rest)) : W p l e R s m args below meth c H locs cells slots Q (F0 m pc ls (.int (iz x) :: .int (iz i) :: .ref (h k) :: rest)) := by
  subst hj
  refine va_zast hF.1 hF.2.1 hK.1 hP (hz.va g) hS k t0 (by rw [wN_at hk, hg]) ht (iz_in (by omega) (by omega)) hd ?_
  have e : vp_nar .boolean (iz x) = iz x := by
    unfold vp_nar
    rw [(iz_nar_z hx).1]
  rw [iz_clamp (by omega), Int.toNat_natCast, e]
  exact fun H1 locs1 h1 _ h3 => kk H1 locs1 (by unfold zB; rw [← wN_set hk hg' ho]; exact h1) h3
theorem z_alen (hF : CallFix p m c cc nL s args UW own) (hK : zK D tys s) (hP : zB n h D g H) {k : Nat} {cA : ClassId} {x : vp_A} {ty : FieldType} (hk : k < n) (hg : g k = .inl (cA, x)) (t0 : Nat) (ht : tys[t0]? = some (cA, ty)) {z : Int} (hv : (x.1 : Int) = z) (hd : decode cc pc = .ok (.arraylength, 1))
    (kk : W p l e R s m args below meth c H locs cells slots Q (F0 m (pc + 1) ls (.int (iz z) :: rest))) : W p l e R s m args below meth c H locs cells slots Q (F0 m pc ls (.ref (h k) :: rest)) :=
  va_alen hF.1 hF.2.1 hK.1 hP k t0 (by rw [wN_at hk, hg]) ht (v := iz z) (by rw [← hv]; exact iz_nI x.1) hd kk
variable {y : MethodName} {cy : ByteArray} {maxL mc ms idx na : Nat} {ret : Option FieldType} {rm : Room} {Qc : Array Value → State → Outcome → State → Prop} {free : Addr → Prop} {As : List Value} {st0 : List Value} {b : Nat} {C host : String}
theorem z_pre {As : List Value} (hK : zK D tys s) (hP : zB n h D g H) : FrameBlind (zP As n h D tys H.size g) ∧ ∀ U : State, U.heap = H → s.WarmedH U.vm → zP As n h D tys H.size g As.toArray U :=
  ⟨zP_blind, fun U hU hW => ⟨rfl, by rw [hU], by rw [hU]; exact hP, hK.warm hW⟩⟩
/-- an own virtual method -/
theorem z_runV (hF : CallFix p m c cc nL s args UW own) (hK : zK D tys s) (hP : zB n h D g H) (hM : Met l y (Cond.code y cy maxL ret :: UW) rm (zP (.ref b :: As) n h D tys H.size g) Qc mc ms free)
    (hG : GoodIn UW (wsV own idx C y (Cond.code y cy maxL ret :: UW))) (hrc : rm.cells = mc) (hrs : rm.slots = ms) (hd : y.cls = C ∧ y.cls ≠ "java/lang/invoke/MethodHandle" ∧ y.cls ≠ "java/lang/invoke/VarHandle" ∧ (parseMethodDescriptor y.desc).map (fun d => d.parameters.length) = some na) (hR : rm.frames + 1 ≤ R.frames ∧ 8 + (maxL + 11) + rm.locals ≤ R.locals)
    {k ci N : Nat} {T : u_T} {fs : List Value} (hk : k < n) (hbk : b = h k) (hg : g k = .inr (ci, fs)) (hc : vwCl[ci]? = some (C, T, N))
    (hna : As.length = na) (hsz : ls.size = nL) (hst : st0 = As.reverse ++ .ref b :: rest) (hW : (rest.map fun v => v.category).sum ≤ 8) (hdg : decode cc pc = .ok (.invokevirtual idx, 3)) (hf : cells + mc ≤ R.cells ∧ slots + ms ≤ R.slots) :
    va_Run p l e R s m args below meth c H locs cells slots mc ms (F0 m pc ls st0) rest (Qc (Value.ref b :: As).toArray) free := by
  obtain ⟨h1, h2⟩ := z_pre (As := .ref b :: As) hK hP
  subst hbk
  exact va_runV hF hM (cwV na hF.2.2.2.2 hG rfl hrc hrs hd hR) ⟨h1, va_recv hK.1 hP hc (by rw [wN_at hk, hg]), h2⟩ rfl hna hsz hst (by show 2 * 0 + _ ≤ 8; omega) hdg hf
/-- a private method of a nest mate -/
theorem z_runVN (hF : CallFix p m c cc nL s args UW own) (hK : zK D tys s) (hP : zB n h D g H) (hM : Met l y (Cond.code y cy maxL ret :: UW) rm (zP (.ref b :: As) n h D tys H.size g) Qc mc ms free)
    (hG : Cond.code y cy maxL ret ∈ UW) (hl : Cond.methodLinkNest own idx y host ∈ NW) (hini : Cond.initialized y.cls ∈ UW) (hin : Cond.instanceMethod y ∈ UW) (hse : Cond.selects C y y ∈ UW) (hrc : rm.cells = mc) (hrs : rm.slots = ms) (hd : y.cls ≠ "java/lang/invoke/MethodHandle" ∧ y.cls ≠ "java/lang/invoke/VarHandle" ∧ (parseMethodDescriptor y.desc).map (fun d => d.parameters.length) = some na) (hR : rm.frames + 1 ≤ R.frames ∧ 8 + (maxL + 11) + rm.locals ≤ R.locals)
    {k ci N : Nat} {T : u_T} {fs : List Value} (hk : k < n) (hbk : b = h k) (hg : g k = .inr (ci, fs)) (hc : vwCl[ci]? = some (C, T, N))
    (hna : As.length = na) (hsz : ls.size = nL) (hst : st0 = As.reverse ++ .ref b :: rest) (hW : (rest.map fun v => v.category).sum ≤ 8) (hdg : decode cc pc = .ok (.invokevirtual idx, 3)) (hf : cells + mc ≤ R.cells ∧ slots + ms ≤ R.slots) :
    va_Run p l e R s m args below meth c H locs cells slots mc ms (F0 m pc ls st0) rest (Qc (Value.ref b :: As).toArray) free := by
  obtain ⟨h1, h2⟩ := z_pre (As := .ref b :: As) hK hP
  subst hbk
  exact va_runVN hF hM ⟨va_cnB na hF.2.2.2.2 (gIn_C hG) rfl hrc hrs (hK.2 _ hl) (hF.2.2.2.2 _ hini) hd hR, hF.2.2.2.2 _ hin, hF.2.2.2.2 _ hse⟩ ⟨h1, va_recv hK.1 hP hc (by rw [wN_at hk, hg]), h2⟩ rfl hna hsz hst (by show 2 * 0 + _ ≤ 8; omega) hdg hf
/-- an own static method -/
theorem z_runS (hF : CallFix p m c cc nL s args UW own) (hK : zK D tys s) (hP : zB n h D g H) (hM : Met l y (Cond.code y cy maxL ret :: UW) rm (zP As n h D tys H.size g) Qc mc ms free)
    (hG : GoodIn UW (wsS own idx y (Cond.code y cy maxL ret :: UW))) (hrc : rm.cells = mc) (hrs : rm.slots = ms) (hd : y.cls = own ∧ y.cls ≠ "java/lang/invoke/MethodHandle" ∧ y.cls ≠ "java/lang/invoke/VarHandle" ∧ (parseMethodDescriptor y.desc).map (fun d => d.parameters.length) = some na) (hR : rm.frames + 1 ≤ R.frames ∧ 8 + (maxL + 11) + rm.locals ≤ R.locals)
    (hna : As.length = na) (hsz : ls.size = nL) (hst : st0 = As.reverse ++ rest) (hW : (rest.map fun v => v.category).sum ≤ 8) (hdg : decode cc pc = .ok (.invokestatic idx, 3)) (hf : cells + mc ≤ R.cells ∧ slots + ms ≤ R.slots) :
    va_Run p l e R s m args below meth c H locs cells slots mc ms (F0 m pc ls st0) rest (Qc As.toArray) free := by
  obtain ⟨h1, h2⟩ := z_pre (As := As) hK hP
  exact va_runS hF hM (cwS na hF.2.2.2.2 hG rfl hrc hrs hd hR) ⟨h1, h2⟩ rfl hna hsz hst (by show 2 * 0 + _ ≤ 8; omega) hdg hf
variable {a : Array Value} {S : Type} {w : S → Nat → va_E}
theorem z_ci {P : Int → S → Prop} (hr : va_Run p l e R s m args below meth c H locs cells slots 0 0 (F0 m pc ls st0) rest (va_Qi (fun r (u : Int × S) => r = iz u.1 ∧ P u.1 u.2) (fun u t => zB n h D (w u.2) t.heap) (zA n h H.size) a) (zA n h H.size)) (hz : zD A n h) (hA : ∀ q, s.heap.size ≤ q → A q) (hS : va_S A s.heap H locs)
    (kk : ∀ (z : Int) (u : S) (H1 : Heap) (locs1 : List Loc), P z u → zB n h D (w u) H1 → va_S A s.heap H1 locs1 → W p l e R s m args below meth c H1 locs1 cells slots Q (F0 m (pc + 3) ls (.int (iz z) :: rest))) : W p l e R s m args below meth c H locs cells slots Q (F0 m pc ls st0) := by
  refine va_calli hr hS (fun q _ hq => zA_sub hz hA hS q hq) (zA_sub hz hA hS) (fun r u t H1 locs1 ht hvm hw hB hz1 hk1 hS1 => ?_)
  obtain ⟨z, u⟩ := u
  obtain ⟨rfl, hp⟩ := hw
  rw [ht] at hB
  exact kk z u H1 locs1 hp hB hS1
theorem z_cv {P : S → Prop} (hr : va_Run p l e R s m args below meth c H locs cells slots 0 0 (F0 m pc ls st0) rest (va_Qv (fun u : S => P u) (fun u t => zB n h D (w u) t.heap) (zA n h H.size) a) (zA n h H.size)) (hz : zD A n h) (hA : ∀ q, s.heap.size ≤ q → A q) (hS : va_S A s.heap H locs)
    (kk : ∀ (u : S) (H1 : Heap) (locs1 : List Loc), P u → zB n h D (w u) H1 → va_S A s.heap H1 locs1 → W p l e R s m args below meth c H1 locs1 cells slots Q (F0 m (pc + 3) ls rest)) : W p l e R s m args below meth c H locs cells slots Q (F0 m pc ls st0) := by
  refine va_callv hr hS (fun q _ hq => zA_sub hz hA hS q hq) (zA_sub hz hA hS) (fun u t H1 locs1 ht hvm hw hB hz1 hk1 hS1 => ?_)
  rw [ht] at hB
  exact kk u H1 locs1 hw hB hS1
theorem z_cq {P : Option Nat → S → Prop} (hr : va_Run p l e R s m args below meth c H locs cells slots 0 0 (F0 m pc ls st0) rest (va_Qq (fun r (u : Option Nat × S) => r = u.1.map h ∧ P u.1 u.2) (fun u t => zB n h D (w u.2) t.heap) (zA n h H.size) a) (zA n h H.size)) (hz : zD A n h) (hA : ∀ q, s.heap.size ≤ q → A q) (hS : va_S A s.heap H locs)
    (kk : ∀ (r : Option Nat) (u : S) (H1 : Heap) (locs1 : List Loc), P r u → zB n h D (w u) H1 → va_S A s.heap H1 locs1 → W p l e R s m args below meth c H1 locs1 cells slots Q (F0 m (pc + 3) ls (va_rf (r.map h) :: rest))) : W p l e R s m args below meth c H locs cells slots Q (F0 m pc ls st0) := by
  refine va_callq hr hS (fun q _ hq => zA_sub hz hA hS q hq) (zA_sub hz hA hS) (fun r u t H1 locs1 ht hvm hw hB hz1 hk1 hS1 => ?_)
  obtain ⟨z, u⟩ := u
  obtain ⟨rfl, hp⟩ := hw
  rw [ht] at hB
  exact kk z u H1 locs1 hp hB hS1
theorem z_reti {P : Int → S → Prop} {z : Int} {u : S} {ty : FieldType} (hF : CallFix p m c cc nL s args UW own) (hr : meth.sig.returnType = some ty) (hlocks : meth.locks = false) (hP : zB n h D (w u) H) (hS : va_S A s.heap H locs) (hn : narrow ty (.int (iz z)) = .int (iz z)) (hp : P z u) (hd : decode cc pc = .ok (.ireturn, 1)) :
    W p l e R s m args below meth c H locs 0 0 (MQ below (va_Qi (fun r (u : Int × S) => r = iz u.1 ∧ P u.1 u.2) (fun u t => zB n h D (w u.2) t.heap) A) args s 0 0 A) (F0 m pc ls [.int (iz z)]) :=
  W.zret hF.1 hF.2.1 hr hn (fun t ht hW => ⟨⟨iz z, (z, u), rfl, ⟨rfl, hp⟩, (by show zB _ _ _ _ t.heap; rw [ht]; exact hP)⟩, hS.F ht⟩) hS.2.2 hd hlocks
theorem z_retv {P : S → Prop} {u : S} (hF : CallFix p m c cc nL s args UW own) (hr : meth.sig.returnType = none) (hlocks : meth.locks = false) (hP : zB n h D (w u) H) (hS : va_S A s.heap H locs) (hp : P u) (hd : decode cc pc = .ok (.return_, 1)) :
    W p l e R s m args below meth c H locs 0 0 (MQ below (va_Qv (fun u : S => P u) (fun u t => zB n h D (w u) t.heap) A) args s 0 0 A) (F0 m pc ls []) :=
  W.vret hF.1 hF.2.1 hr (fun t ht hW => ⟨⟨u, rfl, hp, (by show zB _ _ _ _ t.heap; rw [ht]; exact hP)⟩, hS.F ht⟩) hS.2.2 hd hlocks
theorem z_retq {P : Option Nat → S → Prop} {r : Option Nat} {u : S} {nm : String} {v : Value} (hF : CallFix p m c cc nL s args UW own) (hr : meth.sig.returnType = some (.object nm)) (hlocks : meth.locks = false) (hP : zB n h D (w u) H) (hS : va_S A s.heap H locs) (hv : v = va_rf (r.map h)) (hp : P r u) (hd : decode cc pc = .ok (.areturn, 1)) :
    W p l e R s m args below meth c H locs 0 0 (MQ below (va_Qq (fun r (u : Option Nat × S) => r = u.1.map h ∧ P u.1 u.2) (fun u t => zB n h D (w u.2) t.heap) A) args s 0 0 A) (F0 m pc ls [v]) := by
  subst hv
  exact W.aret hF.1 hF.2.1 hr (Or.inl ⟨nm, rfl⟩) (by cases r with
    | none => exact Or.inl rfl
    | some k => exact Or.inr ⟨h k, rfl⟩) (fun t ht hW => ⟨⟨r.map h, (r, u), rfl, ⟨rfl, hp⟩, (by show zB _ _ _ _ t.heap; rw [ht]; exact hP)⟩, hS.F ht⟩) hS.2.2 hd hlocks
end ZW
end
section
/-! the two object graphs: their cells out of numbers -/
def u2 (σ : Nat → Nat → Int) (r i : Nat) (v : Int) : Nat → Nat → Int := fun r' => if r' = r then (fun i' => if i' = i then v else σ r i') else σ r'
theorem u2_row {σ : Nat → Nat → Int} {r i r' : Nat} {v : Int} (h : r' ≠ r) : u2 σ r i v r' = σ r' := if_neg h
theorem u2_at {σ : Nat → Nat → Int} {r i : Nat} {v : Int} : u2 σ r i v r i = v := by simp [u2]
theorem u2_ne {σ : Nat → Nat → Int} {r i r' i' : Nat} {v : Int} (h : i' ≠ i) : u2 σ r i v r' i' = σ r' i' := by
  unfold u2
  by_cases hr : r' = r
  · subst hr; simp [h]
  · simp [hr]
theorem u2_up {σ : Nat → Nat → Int} {r i : Nat} {v : Int} : (fun j => iz (u2 σ r i v r j)) = upd (fun j => iz (σ r j)) i (iz v) := by
  funext j
  unfold u2 upd
  by_cases hj : j = i
  · subst hj; simp
  · simp [hj]
/-- the class: 0 the grid, 1 sets, 2 changes, 3 bounds, 4 winds, 5 acts, 6 the word, 7 storms, 8 loads, 9 noises, 10 the word's bytes, 11 on: 16 acts, 27 on: 5 storms. σ: what lasts; κ: scratch; ω: the word (how many letters, the bytes, the builder's flag) -/
def gC (c : Nat → ClassId) (h : Nat → Nat) (σ κ : Nat → Nat → Int) (ω : Nat × (Nat → Int32) × Int32) : Nat → va_E
  | 0 => .inr (6, [.ref (h 1), .int (iz (σ 0 0)), .ref (h 2), .ref (h 3), .ref (h 4), .ref (h 5), .int (iz (σ 0 1)), .ref (h 6), .ref (h 7), .int (iz (σ 0 2)), .ref (h 8), .ref (h 9), .int (iz (κ 2 0)), .int (iz (κ 2 1))])
  | 1 => .inl (c 0, 6, .inl fun i => iz (σ 1 i))
  | 2 => .inl (c 0, 3, .inl fun i => iz (σ 2 i))
  | 3 => .inl (c 0, 3, .inl fun i => iz (σ 3 i))
  | 4 => .inl (c 0, 17, .inl fun i => iz (σ 4 i))
  | 5 => .inl (c 2, 16, .inr (.inr (.inr (.inr fun i => some (h (i + 11))))))
  | 6 => .inr (1, [.ref (h 10), .int 0, .int ω.2.2, .int (nI ω.1)])
  | 7 => .inl (c 3, 5, .inr (.inr (.inr (.inr fun i => some (h (i + 27))))))
  | 8 => .inl (c 0, 3, .inl fun i => iz (κ 0 i))
  | 9 => .inl (c 0, 3, .inl fun i => iz (κ 1 i))
  | 10 => .inl (c 1, 16, .inl ω.2.1)
  | k + 11 => if k < 16 then .inr (4, [.int (iz (σ 7 k)), .int (iz (σ 8 k)), .int (iz (σ 9 k)), .int (iz (σ 10 k)), .int (iz (σ 11 k)), .int (iz (σ 12 k)), .int (iz (σ 13 k)), .int (iz (σ 14 k)), .int (iz (σ 15 k))])
      else .inr (5, [.int (iz (σ 16 (k - 16))), .int (iz (σ 17 (k - 16))), .int (iz (σ 18 (k - 16)))])
/-- the array classes: 0 int, 1 byte, 2 acts, 3 storms, 4 boolean -/
def gT (c : Nat → ClassId) : List (ClassId × FieldType) := [(c 0, .int), (c 1, .byte), (c 2, .object "Festivalgrid$Act"), (c 3, .object "Festivalgrid$Storm"), (c 4, .boolean)]
/-- the reference: 0 the model, 1 begun, 2 change, 3 bound, 4 wind, 5 stage, 6 start, 7 length, 8 phase, 9 draw, 10 loud, 11 channel, 12 on, 13 where, 14 from, 15 behind, 16 heard -/
def mC (c : Nat → ClassId) (h : Nat → Nat) (τ κ : Nat → Nat → Int) : Nat → va_E
  | 0 => .inr (7, [.int (iz (τ 0 0)), .ref (h 1), .ref (h 2), .ref (h 3), .ref (h 4), .int (iz (τ 0 1)), .ref (h 5), .ref (h 6), .ref (h 7), .ref (h 8), .ref (h 9), .ref (h 10), .ref (h 11), .ref (h 12), .int (iz (τ 0 4)), .int (iz (τ 0 3)), .int (iz (τ 0 2)), .ref (h 13), .ref (h 14), .ref (h 15), .ref (h 16), .int (iz (κ 1 0))])
  | 1 => .inl (c 0, 6, .inl fun i => iz (τ 1 i))
  | 2 => .inl (c 0, 3, .inl fun i => iz (τ 2 i))
  | 3 => .inl (c 0, 3, .inl fun i => iz (τ 3 i))
  | 4 => .inl (c 0, 17, .inl fun i => iz (τ 4 i))
  | 5 => .inl (c 0, 17, .inl fun i => iz (τ 7 i))
  | 6 => .inl (c 0, 17, .inl fun i => iz (τ 8 i))
  | 7 => .inl (c 0, 17, .inl fun i => iz (τ 9 i))
  | 8 => .inl (c 0, 17, .inl fun i => iz (τ 10 i))
  | 9 => .inl (c 0, 17, .inl fun i => iz (τ 11 i))
  | 10 => .inl (c 0, 17, .inl fun i => iz (τ 12 i))
  | 11 => .inl (c 0, 17, .inl fun i => iz (τ 13 i))
  | 12 => .inl (c 4, 17, .inl fun i => iz (τ 14 i))
  | 13 => .inl (c 0, 5, .inl fun i => iz (τ 16 i))
  | 14 => .inl (c 0, 5, .inl fun i => iz (τ 17 i))
  | 15 => .inl (c 0, 5, .inl fun i => iz (τ 18 i))
  | _ => .inl (c 0, 17, .inl fun i => iz (κ 0 i))
section ST
variable {c : Nat → ClassId} {h : Nat → Nat} {σ κ : Nat → Nat → Int} {ω : Nat × (Nat → Int32) × Int32}
theorem gC_act {k : Nat} (hk : k < 16) : gC c h σ κ ω (k + 11) = .inr (4, [.int (iz (σ 7 k)), .int (iz (σ 8 k)), .int (iz (σ 9 k)), .int (iz (σ 10 k)), .int (iz (σ 11 k)), .int (iz (σ 12 k)), .int (iz (σ 13 k)), .int (iz (σ 14 k)), .int (iz (σ 15 k))]) := if_pos hk
theorem gC_storm {k : Nat} : gC c h σ κ ω (k + 27) = .inr (5, [.int (iz (σ 16 k)), .int (iz (σ 17 k)), .int (iz (σ 18 k))]) := by
  have e : gC c h σ κ ω (k + 27) = gC c h σ κ ω ((k + 16) + 11) := rfl
  rw [e]
  simp only [gC]
  rw [if_neg (by omega)]
  simp
/-- a field of an act is written: the other cells stay -/
theorem gC_act_o {k r : Nat} {v : Int} (hr : 7 ≤ r ∧ r ≤ 15) : ∀ i, i < 32 → i ≠ k + 11 → gC c h (u2 σ r k v) κ ω i = gC c h σ κ ω i := by
  have e : ∀ r', r' < 7 ∨ 15 < r' → u2 σ r k v r' = σ r' := fun r' q => u2_row (by omega)
  intro i hi hne
  match i with
  | 0 => simp only [gC, e 0 (by omega)]
  | 1 => simp only [gC, e 1 (by omega)]
  | 2 => simp only [gC, e 2 (by omega)]
  | 3 => simp only [gC, e 3 (by omega)]
  | 4 => simp only [gC, e 4 (by omega)]
  | 5 => rfl
  | 6 => rfl
  | 7 => rfl
  | 8 => rfl
  | 9 => rfl
  | 10 => rfl
  | k' + 11 =>
    have hk' : k' ≠ k := by omega
    simp only [gC, e 16 (by omega), e 17 (by omega), e 18 (by omega), u2_ne hk']
theorem gC_storm_o {k r : Nat} {v : Int} (hr : 16 ≤ r ∧ r ≤ 18) : ∀ i, i < 32 → i ≠ k + 27 → gC c h (u2 σ r k v) κ ω i = gC c h σ κ ω i := by
  have e : ∀ r', r' < 16 → u2 σ r k v r' = σ r' := fun r' q => u2_row (by omega)
  intro i hi hne
  match i with
  | 0 => simp only [gC, e 0 (by omega)]
  | 1 => simp only [gC, e 1 (by omega)]
  | 2 => simp only [gC, e 2 (by omega)]
  | 3 => simp only [gC, e 3 (by omega)]
  | 4 => simp only [gC, e 4 (by omega)]
  | 5 => rfl
  | 6 => rfl
  | 7 => rfl
  | 8 => rfl
  | 9 => rfl
  | 10 => rfl
  | k' + 11 =>
    simp only [gC]
    by_cases h16 : k' < 16
    · simp only [h16, if_true, e 7 (by omega), e 8 (by omega), e 9 (by omega), e 10 (by omega), e 11 (by omega), e 12 (by omega), e 13 (by omega), e 14 (by omega), e 15 (by omega)]
    · have hk' : k' - 16 ≠ k := by omega
      simp only [h16, if_false, u2_ne hk']
/-- a scalar of the grid -/
theorem gC_sc_o {i0 : Nat} {v : Int} : ∀ i, i < 32 → i ≠ 0 → gC c h (u2 σ 0 i0 v) κ ω i = gC c h σ κ ω i := by
  have e : ∀ r', 0 < r' → u2 σ 0 i0 v r' = σ r' := fun r' q => u2_row (by omega)
  intro i hi hne
  match i with
  | 0 => exact absurd rfl hne
  | 1 => simp only [gC, e 1 (by omega)]
  | 2 => simp only [gC, e 2 (by omega)]
  | 3 => simp only [gC, e 3 (by omega)]
  | 4 => simp only [gC, e 4 (by omega)]
  | 5 => rfl
  | 6 => rfl
  | 7 => rfl
  | 8 => rfl
  | 9 => rfl
  | 10 => rfl
  | k' + 11 => simp only [gC, e 7 (by omega), e 8 (by omega), e 9 (by omega), e 10 (by omega), e 11 (by omega), e 12 (by omega), e 13 (by omega), e 14 (by omega), e 15 (by omega), e 16 (by omega), e 17 (by omega), e 18 (by omega)]
/-- a place of one of the rows 1 to 4 -/
theorem gC_row_o {r i0 : Nat} {v : Int} (hr : 1 ≤ r ∧ r ≤ 4) : ∀ i, i < 32 → i ≠ r → gC c h (u2 σ r i0 v) κ ω i = gC c h σ κ ω i := by
  have e : ∀ r', r' ≠ r → u2 σ r i0 v r' = σ r' := fun r' q => u2_row q
  intro i hi hne
  match i with
  | 0 => simp only [gC, e 0 (by omega)]
  | 1 => simp only [gC, e 1 hne]
  | 2 => simp only [gC, e 2 hne]
  | 3 => simp only [gC, e 3 hne]
  | 4 => simp only [gC, e 4 hne]
  | 5 => rfl
  | 6 => rfl
  | 7 => rfl
  | 8 => rfl
  | 9 => rfl
  | 10 => rfl
  | k' + 11 => simp only [gC, e 7 (by omega), e 8 (by omega), e 9 (by omega), e 10 (by omega), e 11 (by omega), e 12 (by omega), e 13 (by omega), e 14 (by omega), e 15 (by omega), e 16 (by omega), e 17 (by omega), e 18 (by omega)]
/-- scratch: the two rows, the two scalars -/
theorem gC_k_o {r i0 : Nat} {v : Int} (hr : r ≤ 1) : ∀ i, i < 32 → i ≠ r + 8 → gC c h σ (u2 κ r i0 v) ω i = gC c h σ κ ω i := by
  have e : ∀ r', r' ≠ r → u2 κ r i0 v r' = κ r' := fun r' q => u2_row q
  intro i hi hne
  match i with
  | 0 => simp only [gC, e 2 (by omega)]
  | 1 => rfl
  | 2 => rfl
  | 3 => rfl
  | 4 => rfl
  | 5 => rfl
  | 6 => rfl
  | 7 => rfl
  | 8 => simp only [gC, e 0 (by omega)]
  | 9 => simp only [gC, e 1 (by omega)]
  | 10 => rfl
  | k' + 11 => rfl
theorem gC_ks_o {i0 : Nat} {v : Int} : ∀ i, i < 32 → i ≠ 0 → gC c h σ (u2 κ 2 i0 v) ω i = gC c h σ κ ω i := by
  have e : ∀ r', r' ≠ 2 → u2 κ 2 i0 v r' = κ r' := fun r' q => u2_row q
  intro i hi hne
  match i with
  | 0 => exact absurd rfl hne
  | 1 => rfl
  | 2 => rfl
  | 3 => rfl
  | 4 => rfl
  | 5 => rfl
  | 6 => rfl
  | 7 => rfl
  | 8 => simp only [gC, e 0 (by omega)]
  | 9 => simp only [gC, e 1 (by omega)]
  | 10 => rfl
  | k' + 11 => rfl
/-- the reference: a place of the row that the cell a holds -/
def mRow : Nat → Nat := fun a => if a ≤ 4 then a else if a ≤ 12 then a + 2 else a + 3
theorem mC_row_o {τ : Nat → Nat → Int} {a i0 : Nat} {v : Int} (ha : 1 ≤ a ∧ a ≤ 15) : ∀ i, i < 17 → i ≠ a → mC c h (u2 τ (mRow a) i0 v) κ i = mC c h τ κ i := by
  have hr : mRow a = if a ≤ 4 then a else if a ≤ 12 then a + 2 else a + 3 := rfl
  have e : ∀ r', r' ≠ mRow a → u2 τ (mRow a) i0 v r' = τ r' := fun r' q => u2_row q
  intro i hi hne
  match i with
  | 0 => simp only [mC, e 0 (by split at hr <;> (try split at hr) <;> omega)]
  | 1 => simp only [mC, e 1 (by split at hr <;> (try split at hr) <;> omega)]
  | 2 => simp only [mC, e 2 (by split at hr <;> (try split at hr) <;> omega)]
  | 3 => simp only [mC, e 3 (by split at hr <;> (try split at hr) <;> omega)]
  | 4 => simp only [mC, e 4 (by split at hr <;> (try split at hr) <;> omega)]
  | 5 => simp only [mC, e 7 (by split at hr <;> (try split at hr) <;> omega)]
  | 6 => simp only [mC, e 8 (by split at hr <;> (try split at hr) <;> omega)]
  | 7 => simp only [mC, e 9 (by split at hr <;> (try split at hr) <;> omega)]
  | 8 => simp only [mC, e 10 (by split at hr <;> (try split at hr) <;> omega)]
  | 9 => simp only [mC, e 11 (by split at hr <;> (try split at hr) <;> omega)]
  | 10 => simp only [mC, e 12 (by split at hr <;> (try split at hr) <;> omega)]
  | 11 => simp only [mC, e 13 (by split at hr <;> (try split at hr) <;> omega)]
  | 12 => simp only [mC, e 14 (by split at hr <;> (try split at hr) <;> omega)]
  | 13 => simp only [mC, e 16 (by split at hr <;> (try split at hr) <;> omega)]
  | 14 => simp only [mC, e 17 (by split at hr <;> (try split at hr) <;> omega)]
  | 15 => simp only [mC, e 18 (by split at hr <;> (try split at hr) <;> omega)]
  | 16 => rfl
  | i9 + 17 => exact absurd hi (by omega)
theorem mC_sc_o {τ : Nat → Nat → Int} {i0 : Nat} {v : Int} : ∀ i, i < 17 → i ≠ 0 → mC c h (u2 τ 0 i0 v) κ i = mC c h τ κ i := by
  have e : ∀ r', 0 < r' → u2 τ 0 i0 v r' = τ r' := fun r' q => u2_row (by omega)
  intro i hi hne
  match i with
  | 0 => exact absurd rfl hne
  | 1 => simp only [mC, e 1 (by omega)]
  | 2 => simp only [mC, e 2 (by omega)]
  | 3 => simp only [mC, e 3 (by omega)]
  | 4 => simp only [mC, e 4 (by omega)]
  | 5 => simp only [mC, e 7 (by omega)]
  | 6 => simp only [mC, e 8 (by omega)]
  | 7 => simp only [mC, e 9 (by omega)]
  | 8 => simp only [mC, e 10 (by omega)]
  | 9 => simp only [mC, e 11 (by omega)]
  | 10 => simp only [mC, e 12 (by omega)]
  | 11 => simp only [mC, e 13 (by omega)]
  | 12 => simp only [mC, e 14 (by omega)]
  | 13 => simp only [mC, e 16 (by omega)]
  | 14 => simp only [mC, e 17 (by omega)]
  | 15 => simp only [mC, e 18 (by omega)]
  | 16 => rfl
  | i9 + 17 => exact absurd hi (by omega)
theorem mC_h_o {τ : Nat → Nat → Int} {i0 : Nat} {v : Int} : ∀ i, i < 17 → i ≠ 16 → mC c h τ (u2 κ 0 i0 v) i = mC c h τ κ i := by
  have e : u2 κ 0 i0 v 1 = κ 1 := u2_row (by omega)
  intro i hi hne
  match i with
  | 0 => simp only [mC, e]
  | 1 => rfl
  | 2 => rfl
  | 3 => rfl
  | 4 => rfl
  | 5 => rfl
  | 6 => rfl
  | 7 => rfl
  | 8 => rfl
  | 9 => rfl
  | 10 => rfl
  | 11 => rfl
  | 12 => rfl
  | 13 => rfl
  | 14 => rfl
  | 15 => rfl
  | 16 => exact absurd rfl hne
  | i9 + 17 => exact absurd hi (by omega)
theorem mC_t_o {τ : Nat → Nat → Int} {i0 : Nat} {v : Int} : ∀ i, i < 17 → i ≠ 0 → mC c h τ (u2 κ 1 i0 v) i = mC c h τ κ i := by
  have e : u2 κ 1 i0 v 0 = κ 0 := u2_row (by omega)
  intro i hi hne
  match i with
  | 0 => exact absurd rfl hne
  | 1 => rfl
  | 2 => rfl
  | 3 => rfl
  | 4 => rfl
  | 5 => rfl
  | 6 => rfl
  | 7 => rfl
  | 8 => rfl
  | 9 => rfl
  | 10 => rfl
  | 11 => rfl
  | 12 => rfl
  | 13 => rfl
  | 14 => rfl
  | 15 => rfl
  | 16 => simp only [mC, e]
  | i9 + 17 => exact absurd hi (by omega)
end ST
end
section
/-! what the class's numbers always are -/
def GR (r : Nat) (v : Int) : Prop := match r with
  | 1 => 0 ≤ v ∧ v ≤ 999
  | 2 => 0 ≤ v ∧ v ≤ 60
  | 3 => 10 ≤ v ∧ v ≤ 300
  | 4 => -10 ≤ v ∧ v ≤ 10
  | 7 => 0 ≤ v ∧ v ≤ 2
  | 8 => 0 ≤ v ∧ v ≤ 999
  | 9 => 0 ≤ v ∧ v ≤ 200
  | 10 => 0 ≤ v ∧ v ≤ 2
  | 11 => 0 ≤ v ∧ v ≤ 200
  | 12 => 0 ≤ v ∧ v ≤ 200
  | 13 => -1 ≤ v ∧ v ≤ 31
  | 14 => 0 ≤ v ∧ v ≤ 1
  | 15 => 0 ≤ v ∧ v ≤ 1
  | 16 => -1 ≤ v ∧ v ≤ 2
  | 17 => 0 ≤ v ∧ v ≤ 999
  | 18 => 0 ≤ v ∧ v ≤ 1000
  | _ => True
def GI (σ : Nat → Nat → Int) : Prop := (0 ≤ σ 0 0 ∧ σ 0 0 ≤ 6) ∧ (0 ≤ σ 0 1 ∧ σ 0 1 ≤ 16) ∧ (0 ≤ σ 0 2 ∧ σ 0 2 ≤ 5) ∧ ∀ r i, 1 ≤ r → GR r (σ r i)
section GI
variable {σ : Nat → Nat → Int} {v : Int}
theorem GI_00 (hG : GI σ) : 0 ≤ σ 0 0 ∧ σ 0 0 ≤ 6 := hG.1
theorem GI_01 (hG : GI σ) : 0 ≤ σ 0 1 ∧ σ 0 1 ≤ 16 := hG.2.1
theorem GI_02 (hG : GI σ) : 0 ≤ σ 0 2 ∧ σ 0 2 ≤ 5 := hG.2.2.1
theorem GI_1 (hG : GI σ) (i : Nat) : 0 ≤ σ 1 i ∧ σ 1 i ≤ 999 := hG.2.2.2 1 i (by decide)
theorem GI_2 (hG : GI σ) (i : Nat) : 0 ≤ σ 2 i ∧ σ 2 i ≤ 60 := hG.2.2.2 2 i (by decide)
theorem GI_3 (hG : GI σ) (i : Nat) : 10 ≤ σ 3 i ∧ σ 3 i ≤ 300 := hG.2.2.2 3 i (by decide)
theorem GI_4 (hG : GI σ) (i : Nat) : -10 ≤ σ 4 i ∧ σ 4 i ≤ 10 := hG.2.2.2 4 i (by decide)
theorem GI_7 (hG : GI σ) (i : Nat) : 0 ≤ σ 7 i ∧ σ 7 i ≤ 2 := hG.2.2.2 7 i (by decide)
theorem GI_8 (hG : GI σ) (i : Nat) : 0 ≤ σ 8 i ∧ σ 8 i ≤ 999 := hG.2.2.2 8 i (by decide)
theorem GI_9 (hG : GI σ) (i : Nat) : 0 ≤ σ 9 i ∧ σ 9 i ≤ 200 := hG.2.2.2 9 i (by decide)
theorem GI_10 (hG : GI σ) (i : Nat) : 0 ≤ σ 10 i ∧ σ 10 i ≤ 2 := hG.2.2.2 10 i (by decide)
theorem GI_11 (hG : GI σ) (i : Nat) : 0 ≤ σ 11 i ∧ σ 11 i ≤ 200 := hG.2.2.2 11 i (by decide)
theorem GI_12 (hG : GI σ) (i : Nat) : 0 ≤ σ 12 i ∧ σ 12 i ≤ 200 := hG.2.2.2 12 i (by decide)
theorem GI_13 (hG : GI σ) (i : Nat) : -1 ≤ σ 13 i ∧ σ 13 i ≤ 31 := hG.2.2.2 13 i (by decide)
theorem GI_14 (hG : GI σ) (i : Nat) : 0 ≤ σ 14 i ∧ σ 14 i ≤ 1 := hG.2.2.2 14 i (by decide)
theorem GI_15 (hG : GI σ) (i : Nat) : 0 ≤ σ 15 i ∧ σ 15 i ≤ 1 := hG.2.2.2 15 i (by decide)
theorem GI_16 (hG : GI σ) (i : Nat) : -1 ≤ σ 16 i ∧ σ 16 i ≤ 2 := hG.2.2.2 16 i (by decide)
theorem GI_17 (hG : GI σ) (i : Nat) : 0 ≤ σ 17 i ∧ σ 17 i ≤ 999 := hG.2.2.2 17 i (by decide)
theorem GI_18 (hG : GI σ) (i : Nat) : 0 ≤ σ 18 i ∧ σ 18 i ≤ 1000 := hG.2.2.2 18 i (by decide)
theorem GI_up {r k : Nat} (hG : GI σ) (h1 : 1 ≤ r) (hv : GR r v) : GI (u2 σ r k v) := by
  have e : u2 σ r k v 0 = σ 0 := u2_row (by omega)
  refine ⟨by rw [e]; exact hG.1, by rw [e]; exact hG.2.1, by rw [e]; exact hG.2.2.1, fun r' i h => ?_⟩
  by_cases hr : r' = r
  · subst hr
    by_cases hi : i = k
    · subst hi; rw [u2_at]; exact hv
    · rw [u2_ne hi]; exact hG.2.2.2 r' i h
  · rw [u2_row hr]; exact hG.2.2.2 r' i h
theorem GI_u1 {k : Nat} (hG : GI σ) (hv : 0 ≤ v ∧ v ≤ 999) : GI (u2 σ 1 k v) := GI_up hG (by decide) hv
theorem GI_u2 {k : Nat} (hG : GI σ) (hv : 0 ≤ v ∧ v ≤ 60) : GI (u2 σ 2 k v) := GI_up hG (by decide) hv
theorem GI_u3 {k : Nat} (hG : GI σ) (hv : 10 ≤ v ∧ v ≤ 300) : GI (u2 σ 3 k v) := GI_up hG (by decide) hv
theorem GI_u4 {k : Nat} (hG : GI σ) (hv : -10 ≤ v ∧ v ≤ 10) : GI (u2 σ 4 k v) := GI_up hG (by decide) hv
theorem GI_u7 {k : Nat} (hG : GI σ) (hv : 0 ≤ v ∧ v ≤ 2) : GI (u2 σ 7 k v) := GI_up hG (by decide) hv
theorem GI_u8 {k : Nat} (hG : GI σ) (hv : 0 ≤ v ∧ v ≤ 999) : GI (u2 σ 8 k v) := GI_up hG (by decide) hv
theorem GI_u9 {k : Nat} (hG : GI σ) (hv : 0 ≤ v ∧ v ≤ 200) : GI (u2 σ 9 k v) := GI_up hG (by decide) hv
theorem GI_u10 {k : Nat} (hG : GI σ) (hv : 0 ≤ v ∧ v ≤ 2) : GI (u2 σ 10 k v) := GI_up hG (by decide) hv
theorem GI_u11 {k : Nat} (hG : GI σ) (hv : 0 ≤ v ∧ v ≤ 200) : GI (u2 σ 11 k v) := GI_up hG (by decide) hv
theorem GI_u12 {k : Nat} (hG : GI σ) (hv : 0 ≤ v ∧ v ≤ 200) : GI (u2 σ 12 k v) := GI_up hG (by decide) hv
theorem GI_u13 {k : Nat} (hG : GI σ) (hv : -1 ≤ v ∧ v ≤ 31) : GI (u2 σ 13 k v) := GI_up hG (by decide) hv
theorem GI_u14 {k : Nat} (hG : GI σ) (hv : 0 ≤ v ∧ v ≤ 1) : GI (u2 σ 14 k v) := GI_up hG (by decide) hv
theorem GI_u15 {k : Nat} (hG : GI σ) (hv : 0 ≤ v ∧ v ≤ 1) : GI (u2 σ 15 k v) := GI_up hG (by decide) hv
theorem GI_u16 {k : Nat} (hG : GI σ) (hv : -1 ≤ v ∧ v ≤ 2) : GI (u2 σ 16 k v) := GI_up hG (by decide) hv
theorem GI_u17 {k : Nat} (hG : GI σ) (hv : 0 ≤ v ∧ v ≤ 999) : GI (u2 σ 17 k v) := GI_up hG (by decide) hv
theorem GI_u18 {k : Nat} (hG : GI σ) (hv : 0 ≤ v ∧ v ≤ 1000) : GI (u2 σ 18 k v) := GI_up hG (by decide) hv
theorem GI_u00 (hG : GI σ) (hv : 0 ≤ v ∧ v ≤ 6) : GI (u2 σ 0 0 v) := by
  have e : ∀ r', 1 ≤ r' → u2 σ 0 0 v r' = σ r' := fun r' h => u2_row (by omega)
  exact ⟨by rw [u2_at]; exact hv, by rw [u2_ne (by decide)]; exact hG.2.1, by rw [u2_ne (by decide)]; exact hG.2.2.1, fun r i h => by rw [e r h]; exact hG.2.2.2 r i h⟩
theorem GI_u01 (hG : GI σ) (hv : 0 ≤ v ∧ v ≤ 16) : GI (u2 σ 0 1 v) := by
  have e : ∀ r', 1 ≤ r' → u2 σ 0 1 v r' = σ r' := fun r' h => u2_row (by omega)
  exact ⟨by rw [u2_ne (by decide)]; exact hG.1, by rw [u2_at]; exact hv, by rw [u2_ne (by decide)]; exact hG.2.2.1, fun r i h => by rw [e r h]; exact hG.2.2.2 r i h⟩
theorem GI_u02 (hG : GI σ) (hv : 0 ≤ v ∧ v ≤ 5) : GI (u2 σ 0 2 v) := by
  have e : ∀ r', 1 ≤ r' → u2 σ 0 2 v r' = σ r' := fun r' h => u2_row (by omega)
  exact ⟨by rw [u2_ne (by decide)]; exact hG.1, by rw [u2_ne (by decide)]; exact hG.2.1, by rw [u2_at]; exact hv, fun r i h => by rw [e r h]; exact hG.2.2.2 r i h⟩
end GI
section ZR2
variable {p : Program} {l : Launch} {e : Env} {R : Room} {s : State} {m : MethodId} {args : Array Value} {below : List Frame} {meth : Method} {c : Code} {H : Heap} {locs : List Loc} {cells slots : Nat} {Q : State → Prop}
variable {cc : ByteArray} {pc : Nat} {ls : Array Slot} {rest : List Value}
theorem zi_ifb_eq (hx : p.tables.exec = Jvm.exec) (hb : c.code = cc) {P : Prop} {off : Int} {tgt : Nat} (hd : decode cc pc = .ok (.ifCond .eq off, 3)) (ht : (pc : Int) + off = (tgt : Int))
    (kt : ¬ P → W p l e R s m args below meth c H locs cells slots Q (F0 m tgt ls rest)) (kf : P → W p l e R s m args below meth c H locs cells slots Q (F0 m (pc + 3) ls rest)) : W p l e R s m args below meth c H locs cells slots Q (F0 m pc ls (.int (iz (b2i P)) :: rest)) :=
  zi_if_eq hx hb hd ht (by have := @b2i_rg P; omega) (fun h => kt (b2i_0.mp h)) (fun h => kf (b2i_1.mp h))
theorem zi_ifb_ne (hx : p.tables.exec = Jvm.exec) (hb : c.code = cc) {P : Prop} {off : Int} {tgt : Nat} (hd : decode cc pc = .ok (.ifCond .ne off, 3)) (ht : (pc : Int) + off = (tgt : Int))
    (kt : P → W p l e R s m args below meth c H locs cells slots Q (F0 m tgt ls rest)) (kf : ¬ P → W p l e R s m args below meth c H locs cells slots Q (F0 m (pc + 3) ls rest)) : W p l e R s m args below meth c H locs cells slots Q (F0 m pc ls (.int (iz (b2i P)) :: rest)) :=
  zi_if_ne hx hb hd ht (by have := @b2i_rg P; omega) (fun h => kt (b2i_1.mp h)) (fun h => kf (b2i_0.mp h))
theorem iz_div {a b : Int} (ha : 0 ≤ a ∧ a ≤ 2147483647) (hb : 0 < b ∧ b ≤ 2147483647) : iz a / iz b = iz (a / b) := by
  unfold iz
  rw [← Int.tdiv_eq_ediv_of_nonneg ha.1]
  exact (Int32.ofInt_tdiv (by show (-2147483648 : Int) ≤ a; omega) (by show a ≤ (2147483647 : Int); omega) (by show (-2147483648 : Int) ≤ b; omega) (by show b ≤ (2147483647 : Int); omega)).symm
theorem zi_div (hx : p.tables.exec = Jvm.exec) (hb : c.code = cc) {a b : Int} (hd : decode cc pc = .ok (.idiv, 1)) (ha : 0 ≤ a ∧ a ≤ 2147483647) (hb0 : 0 < b ∧ b ≤ 2147483647)
    (k : W p l e R s m args below meth c H locs cells slots Q (F0 m (pc + 1) ls (.int (iz (a / b)) :: rest))) : W p l e R s m args below meth c H locs cells slots Q (F0 m pc ls (.int (iz b) :: .int (iz a) :: rest)) :=
  lv_idiv hx hb hd (fun q => by have := (iz_eq (by omega) iz_r0).mp q; omega) (by rw [iz_div ha hb0]; exact k)
theorem zi_rem (hx : p.tables.exec = Jvm.exec) (hb : c.code = cc) {a b : Int} (hd : decode cc pc = .ok (.irem, 1)) (ha : 0 ≤ a ∧ a ≤ 2147483647) (hb0 : 0 < b ∧ b ≤ 2147483647)
    (k : W p l e R s m args below meth c H locs cells slots Q (F0 m (pc + 1) ls (.int (iz (a % b)) :: rest))) : W p l e R s m args below meth c H locs cells slots Q (F0 m pc ls (.int (iz b) :: .int (iz a) :: rest)) :=
  lv_irem hx hb hd (fun q => by have := (iz_eq (by omega) iz_r0).mp q; omega) (by rw [iz_div ha hb0, iz_mul, iz_sub, show a - a / b * b = a % b by rw [Int.emod_def, Int.mul_comm]]; exact k)
end ZR2
end
section
/-! loops, joins, comparisons of cells, Math, bits -/
section ZL
variable {p : Program} {l : Launch} {e : Env} {R : Room} {s : State} {m : MethodId} {args : Array Value} {below : List Frame} {meth : Method} {c : Code} {H : Heap} {locs : List Loc} {cells slots : Nat} {Q : State → Prop}
variable {cc : ByteArray} {nL pc : Nat} {own : String} {ls : Array Slot} {rest : List Value} {A : Nat → Prop} {n : Nat} {h : Nat → Nat} {D : va_G}
theorem z_loop {V : Type} {wd : V → Nat → va_E} {lv : V → List (Nat × Value)} {stk : V → List Value} {mu : V → Nat} {inv : V → Prop}
    (step : ∀ v, inv v → (∀ v', inv v' → mu v' < mu v → ∀ (H : Heap) (locs : List Loc) (ls : Array Slot), zB n h D (wd v') H → va_S A s.heap H locs → lv_has ls nL (lv v') → W p l e R s m args below meth c H locs cells slots Q (F0 m pc ls (stk v'))) →
      ∀ (H : Heap) (locs : List Loc) (ls : Array Slot), zB n h D (wd v) H → va_S A s.heap H locs → lv_has ls nL (lv v) → W p l e R s m args below meth c H locs cells slots Q (F0 m pc ls (stk v)))
    (v0 : V) (h0 : inv v0) (hP : zB n h D (wd v0) H) (hS : va_S A s.heap H locs) (hl : lv_has ls nL (lv v0)) : W p l e R s m args below meth c H locs cells slots Q (F0 m pc ls (stk v0)) := by
  have key : ∀ (k : Nat) (v : V), mu v < k → inv v → ∀ (H : Heap) (locs : List Loc) (ls : Array Slot), zB n h D (wd v) H → va_S A s.heap H locs → lv_has ls nL (lv v) → W p l e R s m args below meth c H locs cells slots Q (F0 m pc ls (stk v)) := by
    intro k
    induction k with
    | zero => intro v hk; exact absurd hk (Nat.not_lt_zero _)
    | succ k ih =>
      intro v hk hv
      exact step v hv (fun v' hv' hlt => ih v' (by omega) hv')
  exact key (mu v0 + 1) v0 (Nat.lt_succ_self _) h0 H locs ls hP hS hl
theorem z_join {V : Type} {tgt : Nat} {wd : V → Nat → va_E} {lv : V → List (Nat × Value)} {stk : V → List Value} {inv : V → Prop} {g : JFrame}
    (cont : ∀ v, inv v → ∀ (H : Heap) (locs : List Loc) (ls : Array Slot), zB n h D (wd v) H → va_S A s.heap H locs → lv_has ls nL (lv v) → W p l e R s m args below meth c H locs cells slots Q (F0 m tgt ls (stk v)))
    (main : (∀ v, inv v → ∀ (H : Heap) (locs : List Loc) (ls : Array Slot), zB n h D (wd v) H → va_S A s.heap H locs → lv_has ls nL (lv v) → W p l e R s m args below meth c H locs cells slots Q (F0 m tgt ls (stk v))) → W p l e R s m args below meth c H locs cells slots Q g) :
    W p l e R s m args below meth c H locs cells slots Q g := main cont
theorem zi_acmp_eq (hx : p.tables.exec = Jvm.exec) (hb : c.code = cc) (hz : zD A n h) {i j : Nat} {off : Int} {tgt : Nat} (hd : decode cc pc = .ok (.if_acmp .eq off, 3)) (ht : (pc : Int) + off = (tgt : Int)) (hi : i < n) (hj : j < n)
    (kt : i = j → W p l e R s m args below meth c H locs cells slots Q (F0 m tgt ls rest)) (kf : i ≠ j → W p l e R s m args below meth c H locs cells slots Q (F0 m (pc + 3) ls rest)) : W p l e R s m args below meth c H locs cells slots Q (F0 m pc ls (.ref (h j) :: .ref (h i) :: rest)) :=
  lv_acmp_eq (rx := some (h i)) (ry := some (h j)) hx hb hd ht (fun q => kt (hz.1 i j hi hj (Option.some.inj q))) (fun q => kf fun z => q (by rw [z]))
theorem zi_acmp_ne (hx : p.tables.exec = Jvm.exec) (hb : c.code = cc) (hz : zD A n h) {i j : Nat} {off : Int} {tgt : Nat} (hd : decode cc pc = .ok (.if_acmp .ne off, 3)) (ht : (pc : Int) + off = (tgt : Int)) (hi : i < n) (hj : j < n)
    (kt : i ≠ j → W p l e R s m args below meth c H locs cells slots Q (F0 m tgt ls rest)) (kf : i = j → W p l e R s m args below meth c H locs cells slots Q (F0 m (pc + 3) ls rest)) : W p l e R s m args below meth c H locs cells slots Q (F0 m pc ls (.ref (h j) :: .ref (h i) :: rest)) :=
  lv_acmp_ne (rx := some (h i)) (ry := some (h j)) hx hb hd ht (fun q => kt fun z => q (by rw [z])) (fun q => kf (hz.1 i j hi hj (Option.some.inj q)))
theorem zi_max (hF : CallFix p m c cc nL s args UW own) (hsz : ls.size = nL) {idx : Nat} (h1 : Cond.methodLink own idx Lib.Math.max.name ∈ UW) (h2 : Cond.static Lib.Math.max.name ∈ UW) (h3 : Cond.initialized "java/lang/Math" ∈ UW) (h4 : Cond.code Lib.Math.max.name Lib.Math.max.code 2 (some .int) ∈ UW)
    (hf : 1 ≤ R.frames) (hlo : (rest.map fun v => v.category).sum + 13 ≤ R.locals) (hc : cells ≤ R.cells) (hs : slots ≤ R.slots) {a b : Int} (ha : -2147483648 ≤ a ∧ a ≤ 2147483647) (hb : -2147483648 ≤ b ∧ b ≤ 2147483647) (hd : decode cc pc = .ok (.invokestatic idx, 3))
    (k : W p l e R s m args below meth c H locs cells slots Q (F0 m (pc + 3) ls (.int (iz (max a b)) :: rest))) : W p l e R s m args below meth c H locs cells slots Q (F0 m pc ls (.int (iz b) :: .int (iz a) :: rest)) := by
  refine va_mmax hF.1 hF.2.1 (hF.2.2.1.trans hsz.symm) hF.2.2.2.1 (hF.2.2.2.2 _ h1) (hF.2.2.2.2 _ h2) (hF.2.2.2.2 _ h3) (hF.2.2.2.2 _ h4) hf hlo hc hs hd ?_
  have e : (if iz a < iz b then iz b else iz a) = iz (max a b) := by
    by_cases q : a < b
    · rw [if_pos ((iz_lt ha hb).mpr q)]; congr 1; omega
    · rw [if_neg (fun z => q ((iz_lt ha hb).mp z))]; congr 1; omega
  rw [e]; exact k
theorem zi_min (hF : CallFix p m c cc nL s args UW own) (hsz : ls.size = nL) {idx : Nat} (h1 : Cond.methodLink own idx Lib.Math.min.name ∈ UW) (h2 : Cond.static Lib.Math.min.name ∈ UW) (h3 : Cond.initialized "java/lang/Math" ∈ UW) (h4 : Cond.code Lib.Math.min.name Lib.Math.min.code 2 (some .int) ∈ UW)
    (hf : 1 ≤ R.frames) (hlo : (rest.map fun v => v.category).sum + 13 ≤ R.locals) (hc : cells ≤ R.cells) (hs : slots ≤ R.slots) {a b : Int} (ha : -2147483648 ≤ a ∧ a ≤ 2147483647) (hb : -2147483648 ≤ b ∧ b ≤ 2147483647) (hd : decode cc pc = .ok (.invokestatic idx, 3))
    (k : W p l e R s m args below meth c H locs cells slots Q (F0 m (pc + 3) ls (.int (iz (min a b)) :: rest))) : W p l e R s m args below meth c H locs cells slots Q (F0 m pc ls (.int (iz b) :: .int (iz a) :: rest)) := by
  refine va_mmin hF.1 hF.2.1 (hF.2.2.1.trans hsz.symm) hF.2.2.2.1 (hF.2.2.2.2 _ h1) (hF.2.2.2.2 _ h2) (hF.2.2.2.2 _ h3) (hF.2.2.2.2 _ h4) hf hlo hc hs hd ?_
  have e : (if iz b < iz a then iz b else iz a) = iz (min a b) := by
    by_cases q : b < a
    · rw [if_pos ((iz_lt hb ha).mpr q)]; congr 1; omega
    · rw [if_neg (fun z => q ((iz_lt hb ha).mp z))]; congr 1; omega
  rw [e]; exact k
theorem zi_abs (hF : CallFix p m c cc nL s args UW own) (hsz : ls.size = nL) {idx : Nat} (h1 : Cond.methodLink own idx Lib.Math.abs.name ∈ UW) (h2 : Cond.static Lib.Math.abs.name ∈ UW) (h3 : Cond.initialized "java/lang/Math" ∈ UW) (h4 : Cond.code Lib.Math.abs.name Lib.Math.abs.code 1 (some .int) ∈ UW)
    (hf : 1 ≤ R.frames) (hlo : (rest.map fun v => v.category).sum + 13 ≤ R.locals) (hc : cells ≤ R.cells) (hs : slots ≤ R.slots) {a : Int} (ha : -2147483647 ≤ a ∧ a ≤ 2147483647) (hd : decode cc pc = .ok (.invokestatic idx, 3))
    (k : W p l e R s m args below meth c H locs cells slots Q (F0 m (pc + 3) ls (.int (iz (max a (-a))) :: rest))) : W p l e R s m args below meth c H locs cells slots Q (F0 m pc ls (.int (iz a) :: rest)) := by
  refine va_mabs hF.1 hF.2.1 (hF.2.2.1.trans hsz.symm) hF.2.2.2.1 (hF.2.2.2.2 _ h1) (hF.2.2.2.2 _ h2) (hF.2.2.2.2 _ h3) (hF.2.2.2.2 _ h4) hf hlo hc hs hd ?_
  have e : (if 0 ≤ iz a then iz a else 0 - iz a) = iz (max a (-a)) := by
    have e0 : (0 : Int32) = iz 0 := rfl
    rw [e0]
    by_cases q : 0 ≤ a
    · rw [if_pos ((iz_le iz_r0 (by omega)).mpr q)]; congr 1; omega
    · rw [if_neg (fun z => q ((iz_le iz_r0 (by omega)).mp z)), iz_sub]; congr 1; omega
  rw [e]; exact k
/-- bit operations as whole numbers -/
def ius (a b : Int) : Int := ((iz a).toUInt32 >>> ((iz b).toUInt32 &&& Int32.toUInt32 31)).toInt32.toInt
def ian (a b : Int) : Int := (iz a &&& iz b).toInt
def ior (a b : Int) : Int := (iz a ||| iz b).toInt
def ixo (a b : Int) : Int := (iz a ^^^ iz b).toInt
def ish (a b : Int) : Int := (iz a <<< (iz b &&& 31)).toInt
def isr (a b : Int) : Int := (iz a >>> (iz b &&& 31)).toInt
theorem iz_ti (x : Int32) : iz x.toInt = x := Int32.ofInt_toInt x
theorem ti_rg (x : Int32) : -2147483648 ≤ x.toInt ∧ x.toInt ≤ 2147483647 := ⟨by have := Int32.le_toInt x; omega, by have := Int32.toInt_lt x; omega⟩
theorem zi_iushr (hx : p.tables.exec = Jvm.exec) (hb : c.code = cc) {a b : Int} (hd : decode cc pc = .ok (.iushr, 1))
    (k : W p l e R s m args below meth c H locs cells slots Q (F0 m (pc + 1) ls (.int (iz (ius a b)) :: rest))) : W p l e R s m args below meth c H locs cells slots Q (F0 m pc ls (.int (iz b) :: .int (iz a) :: rest)) := lv_iushr hx hb hd (iz_ti _).symm k
theorem zi_iand (hx : p.tables.exec = Jvm.exec) (hb : c.code = cc) {a b : Int} (hd : decode cc pc = .ok (.iand, 1))
    (k : W p l e R s m args below meth c H locs cells slots Q (F0 m (pc + 1) ls (.int (iz (ian a b)) :: rest))) : W p l e R s m args below meth c H locs cells slots Q (F0 m pc ls (.int (iz b) :: .int (iz a) :: rest)) := lv_iand hx hb hd (by unfold ian at k; rw [iz_ti] at k; exact k)
theorem zi_ior (hx : p.tables.exec = Jvm.exec) (hb : c.code = cc) {a b : Int} (hd : decode cc pc = .ok (.ior, 1))
    (k : W p l e R s m args below meth c H locs cells slots Q (F0 m (pc + 1) ls (.int (iz (ior a b)) :: rest))) : W p l e R s m args below meth c H locs cells slots Q (F0 m pc ls (.int (iz b) :: .int (iz a) :: rest)) := lv_ior hx hb hd (by unfold ior at k; rw [iz_ti] at k; exact k)
theorem zi_ixor (hx : p.tables.exec = Jvm.exec) (hb : c.code = cc) {a b : Int} (hd : decode cc pc = .ok (.ixor, 1))
    (k : W p l e R s m args below meth c H locs cells slots Q (F0 m (pc + 1) ls (.int (iz (ixo a b)) :: rest))) : W p l e R s m args below meth c H locs cells slots Q (F0 m pc ls (.int (iz b) :: .int (iz a) :: rest)) := lv_ixor hx hb hd (by unfold ixo at k; rw [iz_ti] at k; exact k)
theorem zi_ishl (hx : p.tables.exec = Jvm.exec) (hb : c.code = cc) {a b : Int} (hd : decode cc pc = .ok (.ishl, 1))
    (k : W p l e R s m args below meth c H locs cells slots Q (F0 m (pc + 1) ls (.int (iz (ish a b)) :: rest))) : W p l e R s m args below meth c H locs cells slots Q (F0 m pc ls (.int (iz b) :: .int (iz a) :: rest)) := lv_ishl hx hb hd (by unfold ish at k; rw [iz_ti] at k; exact k)
theorem zi_ishr (hx : p.tables.exec = Jvm.exec) (hb : c.code = cc) {a b : Int} (hd : decode cc pc = .ok (.ishr, 1))
    (k : W p l e R s m args below meth c H locs cells slots Q (F0 m (pc + 1) ls (.int (iz (isr a b)) :: rest))) : W p l e R s m args below meth c H locs cells slots Q (F0 m pc ls (.int (iz b) :: .int (iz a) :: rest)) := lv_ishr hx hb hd (by unfold isr at k; rw [iz_ti] at k; exact k)
/-- a static method of another class of the tables -/
theorem z_runSO {y : MethodName} {cy : ByteArray} {maxL mc ms idx na : Nat} {ret : Option FieldType} {rm : Room} {Qc : Array Value → State → Outcome → State → Prop} {free : Addr → Prop} {As st0 : List Value} {tys : List (ClassId × FieldType)} {g : Nat → va_E} (hF : CallFix p m c cc nL s args UW own) (hK : zK D tys s) (hP : zB n h D g H) (hM : Met l y (Cond.code y cy maxL ret :: UW) rm (zP As n h D tys H.size g) Qc mc ms free)
    (h1 : Cond.methodLink own idx y ∈ UW) (h2 : Cond.static y ∈ UW) (h4 : Cond.initialized y.cls ∈ UW) (h5 : Cond.code y cy maxL ret ∈ UW) (hrc : rm.cells = mc) (hrs : rm.slots = ms) (hd : y.cls ≠ "java/lang/invoke/MethodHandle" ∧ y.cls ≠ "java/lang/invoke/VarHandle" ∧ (parseMethodDescriptor y.desc).map (fun d => d.parameters.length) = some na) (hR : rm.frames + 1 ≤ R.frames ∧ 8 + (maxL + 11) + rm.locals ≤ R.locals)
    (hna : As.length = na) (hsz : ls.size = nL) (hst : st0 = As.reverse ++ rest) (hW : (rest.map fun v => v.category).sum ≤ 8) (hdg : decode cc pc = .ok (.invokestatic idx, 3)) (hf : cells + mc ≤ R.cells ∧ slots + ms ≤ R.slots) :
    va_Run p l e R s m args below meth c H locs cells slots mc ms (F0 m pc ls st0) rest (Qc As.toArray) free := by
  obtain ⟨q1, q2⟩ := z_pre (As := As) hK hP
  refine va_runS hF hM (va_cwS na hF.2.2.2.2 ?_ rfl hrc hrs hd hR) ⟨q1, q2⟩ rfl hna hsz hst (by show 2 * 0 + _ ≤ 8; omega) hdg hf
  intro w hw
  simp only [va_wsS, List.mem_append, List.mem_cons, List.not_mem_nil, or_false] at hw
  rcases hw with (rfl | rfl | rfl) | (rfl | hw)
  · exact UW_gd h1
  · exact UW_gd h2
  · exact UW_gd h4
  · exact UW_gd h5
  · exact UW_gd hw
end ZL
end
section
/-! what the class's methods answer, over its numbers -/
noncomputable def ic (P : Prop) (a : Int) : Int := @ite Int P (Classical.propDecidable P) a 0
theorem ic_t {P : Prop} {a : Int} (h : P) : ic P a = a := if_pos h
theorem ic_f {P : Prop} {a : Int} (h : ¬ P) : ic P a = 0 := if_neg h
noncomputable def ie (P : Prop) (a b : Int) : Int := @ite Int P (Classical.propDecidable P) a b
theorem ie_t {P : Prop} {a b : Int} (h : P) : ie P a b = a := if_pos h
theorem ie_f {P : Prop} {a b : Int} (h : ¬ P) : ie P a b = b := if_neg h
def pl (σ : Nat → Nat → Int) (k : Nat) (mi : Int) : Prop := σ 14 k ≠ 0 ∧ σ 8 k ≤ mi ∧ mi < σ 8 k + σ 9 k
def nr (σ : Nat → Nat → Int) (k j : Nat) (ch : Int) : Prop := σ 8 k < σ 8 j + σ 9 j + ch ∧ σ 8 j < σ 8 k + σ 9 k + ch
def hit (σ : Nat → Nat → Int) (s k : Nat) : Prop := σ 16 s = σ 7 k ∧ σ 8 k < σ 18 s ∧ σ 17 s < σ 8 k + σ 9 k
def bt (z : Int) (i : Nat) : Prop := (iz z).toBitVec.getLsbD i = true
def hc (z cz : Int) : Prop := 0 ≤ cz ∧ cz < 32 ∧ bt z cz.toNat
def pr (z mid : Int) : Prop := ∃ a : Nat, 1 ≤ a ∧ hc z (mid - a) ∧ hc z (mid + a)
def mid (z : Int) : Prop := ∃ b : Nat, 1 ≤ b ∧ b ≤ 30 ∧ hc z b ∧ pr z b
def stN (σ : Nat → Nat → Int) (mi : Int) : Nat → Int
  | 0 => 0
  | i + 1 => stN σ mi i + (if σ 1 i ≤ mi then 1 else 0)
def nz (σ : Nat → Nat → Int) (k : Nat) (hs : Int) (w : Int) : Int := max 0 (σ 12 k - (10 + 10 * max (σ 7 k - hs) (-(σ 7 k - hs)) + w))
noncomputable def ldS (σ : Nat → Nat → Int) (mi : Int) (p : Nat) : Nat → Int
  | 0 => 0
  | i + 1 => ldS σ mi p i + ic (pl σ i mi ∧ σ 10 i = p) (σ 11 i)
noncomputable def nsS (σ : Nat → Nat → Int) (mi w : Int) (hs : Nat) : Nat → Int
  | 0 => 0
  | i + 1 => nsS σ mi w hs i + ic (pl σ i mi) (nz σ i hs w)
noncomputable def chS (σ : Nat → Nat → Int) (mi : Int) : Nat → Int
  | 0 => 0
  | i + 1 => ie (pl σ i mi ∧ σ 13 i ≠ -1) (ior (chS σ mi i) (ish 1 (σ 13 i))) (chS σ mi i)
noncomputable def tcS (σ : Nat → Nat → Int) (mi : Int) : Nat → Int
  | 0 => 0
  | i + 1 => ie (pl σ i mi ∧ σ 13 i ≠ -1) (b2i (tcS σ mi i ≠ 0 ∨ hc (chS σ mi i) (σ 13 i - 1) ∨ hc (chS σ mi i) (σ 13 i) ∨ hc (chS σ mi i) (σ 13 i + 1))) (tcS σ mi i)
def wd (σ : Nat → Nat → Int) (mi : Int) : Int := σ 4 (mi / 60).toNat
/-- what lookAt leaves in the scratch cells -/
def LK (σ : Nat → Nat → Int) (mi : Int) (i : Nat) (κ : Nat → Nat → Int) : Prop :=
  (∀ p, p < 3 → κ 0 p = ldS σ mi p i) ∧ (∀ hs, hs < 3 → κ 1 hs = nsS σ mi (wd σ mi) hs i) ∧ κ 2 0 = chS σ mi i ∧ κ 2 1 = tcS σ mi i
def bad2 (σ : Nat → Nat → Int) (mi : Int) : Prop := ∃ p, p < 3 ∧ 100 * stN σ mi (σ 0 0).toNat < ldS σ mi p 16
def bad3 (σ : Nat → Nat → Int) (mi : Int) : Prop := tcS σ mi 16 ≠ 0 ∨ mid (chS σ mi 16)
def ev (mi : Int) : Int := if 600 ≤ mi then 10 else 0
def bad4 (σ : Nat → Nat → Int) (mi : Int) : Prop := ∃ hs, hs < 3 ∧ σ 3 hs - ev mi < nsS σ mi (wd σ mi) hs 16
/-- the first point that is broken in a minute -/
noncomputable def pt (σ : Nat → Nat → Int) (mi : Int) : Int := ie (bad2 σ mi) 2 (ie (bad3 σ mi) 3 (ie (bad4 σ mi) 4 0))
theorem pt_rg {σ : Nat → Nat → Int} {mi : Int} : 0 ≤ pt σ mi ∧ pt σ mi ≤ 4 := by
  unfold pt
  rcases Classical.em (bad2 σ mi) with h | h
  · rw [ie_t h]; decide
  · rw [ie_f h]
    rcases Classical.em (bad3 σ mi) with h | h
    · rw [ie_t h]; decide
    · rw [ie_f h]
      rcases Classical.em (bad4 σ mi) with h | h
      · rw [ie_t h]; decide
      · rw [ie_f h]; decide
theorem stN_rg {σ : Nat → Nat → Int} {mi : Int} (i : Nat) : 0 ≤ stN σ mi i ∧ stN σ mi i ≤ i := by
  induction i with
  | zero => exact ⟨by simp [stN], by simp [stN]⟩
  | succ i ih => simp only [stN]; split <;> omega
theorem ldS_rg {σ : Nat → Nat → Int} (hG : GI σ) {mi : Int} {p : Nat} (i : Nat) : 0 ≤ ldS σ mi p i ∧ ldS σ mi p i ≤ 200 * i := by
  induction i with
  | zero => exact ⟨by simp [ldS], by simp [ldS]⟩
  | succ i ih =>
    have := GI_11 hG i
    simp only [ldS]
    rcases Classical.em (pl σ i mi ∧ σ 10 i = p) with h | h
    · rw [ic_t h]; omega
    · rw [ic_f h]; omega
theorem nsS_rg {σ : Nat → Nat → Int} (hG : GI σ) {mi w : Int} (hw : -10 ≤ w ∧ w ≤ 10) {hs : Nat} (i : Nat) : 0 ≤ nsS σ mi w hs i ∧ nsS σ mi w hs i ≤ 200 * i := by
  induction i with
  | zero => exact ⟨by simp [nsS], by simp [nsS]⟩
  | succ i ih =>
    have := GI_12 hG i
    simp only [nsS]
    have : 0 ≤ nz σ i hs w ∧ nz σ i hs w ≤ 200 := by unfold nz; omega
    rcases Classical.em (pl σ i mi) with h | h
    · rw [ic_t h]; omega
    · rw [ic_f h]; omega
theorem tcS_rg {σ : Nat → Nat → Int} {mi : Int} (i : Nat) : 0 ≤ tcS σ mi i ∧ tcS σ mi i ≤ 1 := by
  induction i with
  | zero => exact ⟨by simp [tcS], by simp [tcS]⟩
  | succ i ih =>
    simp only [tcS]
    rcases Classical.em (pl σ i mi ∧ σ 13 i ≠ -1) with h | h
    · rw [ie_t h]; exact b2i_rg
    · rw [ie_f h]; exact ih
theorem chS_rg {σ : Nat → Nat → Int} {mi : Int} (i : Nat) : -2147483648 ≤ chS σ mi i ∧ chS σ mi i ≤ 2147483647 := by
  induction i with
  | zero => exact ⟨by simp [chS], by simp [chS]⟩
  | succ i ih =>
    simp only [chS]
    rcases Classical.em (pl σ i mi ∧ σ 13 i ≠ -1) with h | h
    · rw [ie_t h]; exact ti_rg _
    · rw [ie_f h]; exact ih
def fits' (σ : Nat → Nat → Int) (k : Nat) : Prop := σ 8 k + σ 9 k ≤ 1000 ∧ (∀ s, s < 5 → ¬ hit σ s k) ∧ ∀ j, j < 16 → ¬ (j ≠ k ∧ σ 14 j ≠ 0 ∧ σ 7 j = σ 7 k ∧ nr σ k j (σ 2 (σ 7 k).toNat))
def stormy (σ : Nat → Nat → Int) (st mi : Int) : Prop := ∃ s, s < 5 ∧ σ 16 s = st ∧ σ 17 s ≤ mi ∧ mi < σ 18 s
def held (σ : Nat → Nat → Int) (k : Nat) (mi : Int) : Prop := ∃ j, j < 16 ∧ j ≠ k ∧ σ 14 j ≠ 0 ∧ σ 7 j = σ 7 k ∧ σ 8 j ≤ mi ∧ mi < σ 8 j + σ 9 j + σ 2 (σ 7 k).toNat
def stFine (σ : Nat → Nat → Int) (st : Int) : Prop := ∀ k, k < 16 → σ 14 k ≠ 0 → σ 7 k = st → fits' σ k
def stsFine (σ : Nat → Nat → Int) (mi : Int) : Prop := ∀ k, k < 16 → pl σ k mi → ¬ stormy σ (σ 7 k) mi ∧ ¬ held σ k mi
/-- the first of the points 2 to 4 that is broken in a minute from a to before b -/
noncomputable def bw (σ : Nat → Nat → Int) (a b : Int) : Int := ie (∃ m, a ≤ m ∧ m < b ∧ pt σ m = 2) 2 (ie (∃ m, a ≤ m ∧ m < b ∧ pt σ m = 3) 3 (ie (∃ m, a ≤ m ∧ m < b ∧ pt σ m = 4) 4 0))
noncomputable def bby (σ : Nat → Nat → Int) (k : Nat) : Int := ie (fits' σ k) (bw σ (σ 8 k) (σ 8 k + σ 9 k)) 1
end
section
set_option maxRecDepth 100000 in
set_option maxHeartbeats 4000000 in
theorem c_X0_end (l : Launch) (h : Nat → Nat) (D : va_G) (c : Nat → ClassId) (σ κ : Nat → Nat → Int) (ω : Nat × (Nat → Int32) × Int32) (hinj : ∀ i j, i < 32 → j < 32 → h i = h j → i = j) (hG : GI σ) (k : Nat) (hk : k < 16) :
    zMi (S := Unit) l yX0_end cX0_end 1 (some .int) 0 0 [.ref (h (k + 11))] 32 h D (gT c) (gC c h (σ) (κ) (ω)) (fun _ => gC c h σ κ ω) (fun z _ => z = σ 8 k + σ 9 k) := by
  refine zM_of (by decide) (Nat.le_of_ble_eq_true rfl) ?_
  intro p e s m below meth cd ls ⟨hF, hr, hlocks, hK⟩ hP hl
  have hz : zD (zA 32 h s.heap.size) 32 h := zD.self hinj s.heap.size
  have hA : ∀ q, s.heap.size ≤ q → zA 32 h s.heap.size q := zA_new
  generalize zA 32 h s.heap.size = A at hz hA ⊢
  have hS : va_S A s.heap s.heap [] := va_S.rf
  have hl : lv_has ls 1 [(0, .ref (h (k + 11)))] := hl
  refine lv_aload_n hF.1 hF.2.1 dX0_end_0 rfl (lv_at hl 0 rfl) ?_
  refine z_get hF hK hP (k := k + 11) (C := RX0) (T := TX0) (N := 9) (by omega) (gC_act (by omega)) rfl uin_X0 1 (by decide) mw_5 (v := .int (iz (σ 8 k))) rfl dX0_end_1 ?_
  have q_1 := GI_8 hG (k)
  refine lv_aload_n hF.1 hF.2.1 dX0_end_4 rfl (lv_at hl 0 rfl) ?_
  refine z_get hF hK hP (k := k + 11) (C := RX0) (T := TX0) (N := 9) (by omega) (gC_act (by omega)) rfl uin_X0 2 (by decide) mw_6 (v := .int (iz (σ 9 k))) rfl dX0_end_5 ?_
  have q_2 := GI_9 hG (k)
  refine zi_add hF.1 hF.2.1 dX0_end_8 ?_
  exact z_reti (P := fun z _ => z = σ 8 k + σ 9 k) (z := (σ 8 k) + (σ 9 k)) (u := ()) (w := fun _ => gC c h σ κ ω) hF hr hlocks hP hS (rfl) (rfl) dX0_end_9

set_option maxRecDepth 100000 in
set_option maxHeartbeats 4000000 in
theorem c_X0_playsAt (l : Launch) (h : Nat → Nat) (D : va_G) (c : Nat → ClassId) (σ κ : Nat → Nat → Int) (ω : Nat × (Nat → Int32) × Int32) (hinj : ∀ i j, i < 32 → j < 32 → h i = h j → i = j) (hG : GI σ) (k : Nat) (hk : k < 16) (mi : Int) (hm : -100 ≤ mi ∧ mi ≤ 5000) :
    zMi (S := Unit) l yX0_playsAt cX0_playsAt 2 (some .boolean) 0 0 [.ref (h (k + 11)), .int (iz (mi))] 32 h D (gT c) (gC c h (σ) (κ) (ω)) (fun _ => gC c h σ κ ω) (fun z _ => z = b2i (pl σ k mi)) := by
  refine zM_of (by decide) (Nat.le_of_ble_eq_true rfl) ?_
  intro p e s m below meth cd ls ⟨hF, hr, hlocks, hK⟩ hP hl
  have hz : zD (zA 32 h s.heap.size) 32 h := zD.self hinj s.heap.size
  have hA : ∀ q, s.heap.size ≤ q → zA 32 h s.heap.size q := zA_new
  generalize zA 32 h s.heap.size = A at hz hA ⊢
  have hS : va_S A s.heap s.heap [] := va_S.rf
  have hl : lv_has ls 2 [(0, .ref (h (k + 11))), (1, .int (iz (mi)))] := hl
  refine lv_aload_n hF.1 hF.2.1 dX0_playsAt_0 rfl (lv_at hl 0 rfl) ?_
  refine z_get hF hK hP (k := k + 11) (C := RX0) (T := TX0) (N := 9) (by omega) (gC_act (by omega)) rfl uin_X0 7 (by decide) mw_8 (v := .int (iz (σ 14 k))) rfl dX0_playsAt_1 ?_
  have q_1 := GI_14 hG (k)
  refine zi_if_eq (tgt := 32) hF.1 hF.2.1 (a := σ 14 k) dX0_playsAt_4 (by decide) (by omega) (fun c_4 => ?_) (fun c_4 => ?_)
  · skip
    refine zi_const hF.1 hF.2.1 dX0_playsAt_32 ?_
    exact z_reti (P := fun z _ => z = b2i (pl σ k mi)) (z := 0) (u := ()) (w := fun _ => gC c h σ κ ω) hF hr hlocks hP hS ((iz_nar_z (by first | omega | exact b2i_rg)).1) (by first | exact (b2i_t (by unfold pl; omega)).symm | exact (b2i_f (by unfold pl; omega)).symm) dX0_playsAt_33
  · skip
    refine lv_iload_n hF.1 hF.2.1 dX0_playsAt_7 rfl (lv_at hl 1 rfl) ?_
    refine lv_aload_n hF.1 hF.2.1 dX0_playsAt_8 rfl (lv_at hl 0 rfl) ?_
    refine z_get hF hK hP (k := k + 11) (C := RX0) (T := TX0) (N := 9) (by omega) (gC_act (by omega)) rfl uin_X0 1 (by decide) mw_5 (v := .int (iz (σ 8 k))) rfl dX0_playsAt_9 ?_
    have q_2 := GI_8 hG (k)
    refine zi_icmp_lt (tgt := 32) hF.1 hF.2.1 (a := mi) (b := σ 8 k) dX0_playsAt_12 (by decide) (by omega) (by omega) (fun c_12 => ?_) (fun c_12 => ?_)
    · skip
      refine zi_const hF.1 hF.2.1 dX0_playsAt_32 ?_
      exact z_reti (P := fun z _ => z = b2i (pl σ k mi)) (z := 0) (u := ()) (w := fun _ => gC c h σ κ ω) hF hr hlocks hP hS ((iz_nar_z (by first | omega | exact b2i_rg)).1) (by first | exact (b2i_t (by unfold pl; omega)).symm | exact (b2i_f (by unfold pl; omega)).symm) dX0_playsAt_33
    · skip
      refine lv_iload_n hF.1 hF.2.1 dX0_playsAt_15 rfl (lv_at hl 1 rfl) ?_
      refine lv_aload_n hF.1 hF.2.1 dX0_playsAt_16 rfl (lv_at hl 0 rfl) ?_
      refine z_get hF hK hP (k := k + 11) (C := RX0) (T := TX0) (N := 9) (by omega) (gC_act (by omega)) rfl uin_X0 1 (by decide) mw_5 (v := .int (iz (σ 8 k))) rfl dX0_playsAt_17 ?_
      have q_3 := GI_8 hG (k)
      refine lv_aload_n hF.1 hF.2.1 dX0_playsAt_20 rfl (lv_at hl 0 rfl) ?_
      refine z_get hF hK hP (k := k + 11) (C := RX0) (T := TX0) (N := 9) (by omega) (gC_act (by omega)) rfl uin_X0 2 (by decide) mw_6 (v := .int (iz (σ 9 k))) rfl dX0_playsAt_21 ?_
      have q_4 := GI_9 hG (k)
      refine zi_add hF.1 hF.2.1 dX0_playsAt_24 ?_
      refine zi_icmp_ge (tgt := 32) hF.1 hF.2.1 (a := mi) (b := (σ 8 k) + (σ 9 k)) dX0_playsAt_25 (by decide) (by omega) (by omega) (fun c_25 => ?_) (fun c_25 => ?_)
      · skip
        refine zi_const hF.1 hF.2.1 dX0_playsAt_32 ?_
        exact z_reti (P := fun z _ => z = b2i (pl σ k mi)) (z := 0) (u := ()) (w := fun _ => gC c h σ κ ω) hF hr hlocks hP hS ((iz_nar_z (by first | omega | exact b2i_rg)).1) (by first | exact (b2i_t (by unfold pl; omega)).symm | exact (b2i_f (by unfold pl; omega)).symm) dX0_playsAt_33
      · skip
        refine zi_const hF.1 hF.2.1 dX0_playsAt_28 ?_
        refine lv_goto (tgt := 33) hF.1 hF.2.1 dX0_playsAt_29 (by decide) ?_
        exact z_reti (P := fun z _ => z = b2i (pl σ k mi)) (z := 1) (u := ()) (w := fun _ => gC c h σ κ ω) hF hr hlocks hP hS ((iz_nar_z (by first | omega | exact b2i_rg)).1) (by first | exact (b2i_t (by unfold pl; omega)).symm | exact (b2i_f (by unfold pl; omega)).symm) dX0_playsAt_33

set_option maxRecDepth 100000 in
set_option maxHeartbeats 4000000 in
theorem c_X0_isTooNear (l : Launch) (h : Nat → Nat) (D : va_G) (c : Nat → ClassId) (σ κ : Nat → Nat → Int) (ω : Nat × (Nat → Int32) × Int32) (hinj : ∀ i j, i < 32 → j < 32 → h i = h j → i = j) (hG : GI σ) (k : Nat) (hk : k < 16) (j : Nat) (hj : j < 16) (ch : Int) (hch : 0 ≤ ch ∧ ch ≤ 100) :
    zMi (S := Unit) l yX0_isTooNear cX0_isTooNear 3 (some .boolean) 1 20 [.ref (h (k + 11)), .ref (h (j + 11)), .int (iz (ch))] 32 h D (gT c) (gC c h (σ) (κ) (ω)) (fun _ => gC c h σ κ ω) (fun z _ => z = b2i (nr σ k j ch)) := by
  refine zM_of (by decide) (Nat.le_of_ble_eq_true rfl) ?_
  intro p e s m below meth cd ls ⟨hF, hr, hlocks, hK⟩ hP hl
  have hz : zD (zA 32 h s.heap.size) 32 h := zD.self hinj s.heap.size
  have hA : ∀ q, s.heap.size ≤ q → zA 32 h s.heap.size q := zA_new
  generalize zA 32 h s.heap.size = A at hz hA ⊢
  have hS : va_S A s.heap s.heap [] := va_S.rf
  have hl : lv_has ls 3 [(0, .ref (h (k + 11))), (1, .ref (h (j + 11))), (2, .int (iz (ch)))] := hl
  refine lv_aload_n hF.1 hF.2.1 dX0_isTooNear_0 rfl (lv_at hl 0 rfl) ?_
  refine z_get hF hK hP (k := k + 11) (C := RX0) (T := TX0) (N := 9) (by omega) (gC_act (by omega)) rfl uin_X0 1 (by decide) mw_5 (v := .int (iz (σ 8 k))) rfl dX0_isTooNear_1 ?_
  have q_1 := GI_8 hG (k)
  refine lv_aload_n hF.1 hF.2.1 dX0_isTooNear_4 rfl (lv_at hl 1 rfl) ?_
  refine z_ci (S := Unit) (w := fun _ => gC c h σ κ ω) (P := fun z _ => z = σ 8 j + σ 9 j) (z_runV (rm := { frames := 0, cells := 0, slots := 0, locals := 0 }) hF hK hP (c_X0_end l h D c σ κ ω hinj hG j (by omega) _) (gIn_V mw_10 mw_11 mw_12 mw_13 mw_4) rfl rfl ⟨rfl, by decide, by decide, rfl⟩ ⟨Nat.le_of_ble_eq_true rfl, Nat.le_of_ble_eq_true rfl⟩ (k := j + 11) (T := TX0) (N := 9) (by omega) rfl (gC_act (by omega)) rfl (As := []) (rest := [.int (iz (σ 8 k))]) rfl hl.1 rfl (Nat.le_of_ble_eq_true rfl) dX0_isTooNear_5 ⟨Nat.le_refl _, Nat.le_refl _⟩) hz hA hS (fun z_2 u_3 H locs hp hP hS => ?_)
  obtain rfl : z_2 = σ 8 j + σ 9 j := hp
  have q_4 := GI_8 hG j
  have q_5 := GI_9 hG j
  refine lv_iload_n hF.1 hF.2.1 dX0_isTooNear_8 rfl (lv_at hl 2 rfl) ?_
  refine zi_add hF.1 hF.2.1 dX0_isTooNear_9 ?_
  refine zi_icmp_ge (tgt := 30) hF.1 hF.2.1 (a := σ 8 k) (b := (σ 8 j + σ 9 j) + ch) dX0_isTooNear_10 (by decide) (by omega) (by omega) (fun c_10 => ?_) (fun c_10 => ?_)
  · skip
    refine zi_const hF.1 hF.2.1 dX0_isTooNear_30 ?_
    exact z_reti (P := fun z _ => z = b2i (nr σ k j ch)) (z := 0) (u := ()) (w := fun _ => gC c h σ κ ω) hF hr hlocks hP hS ((iz_nar_z (by first | omega | exact b2i_rg)).1) (by first | exact (b2i_t (by unfold nr; omega)).symm | exact (b2i_f (by unfold nr; omega)).symm) dX0_isTooNear_31
  · skip
    refine lv_aload_n hF.1 hF.2.1 dX0_isTooNear_13 rfl (lv_at hl 1 rfl) ?_
    refine z_get hF hK hP (k := j + 11) (C := RX0) (T := TX0) (N := 9) (by omega) (gC_act (by omega)) rfl uin_X0 1 (by decide) mw_5 (v := .int (iz (σ 8 j))) rfl dX0_isTooNear_14 ?_
    have q_6 := GI_8 hG (j)
    refine lv_aload_n hF.1 hF.2.1 dX0_isTooNear_17 rfl (lv_at hl 0 rfl) ?_
    refine z_ci (S := Unit) (w := fun _ => gC c h σ κ ω) (P := fun z _ => z = σ 8 k + σ 9 k) (z_runV (rm := { frames := 0, cells := 0, slots := 0, locals := 0 }) hF hK hP (c_X0_end l h D c σ κ ω hinj hG k (by omega) _) (gIn_V mw_10 mw_11 mw_12 mw_13 mw_4) rfl rfl ⟨rfl, by decide, by decide, rfl⟩ ⟨Nat.le_of_ble_eq_true rfl, Nat.le_of_ble_eq_true rfl⟩ (k := k + 11) (T := TX0) (N := 9) (by omega) rfl (gC_act (by omega)) rfl (As := []) (rest := [.int (iz (σ 8 j))]) rfl hl.1 rfl (Nat.le_of_ble_eq_true rfl) dX0_isTooNear_18 ⟨Nat.le_refl _, Nat.le_refl _⟩) hz hA hS (fun z_7 u_8 H locs hp hP hS => ?_)
    obtain rfl : z_7 = σ 8 k + σ 9 k := hp
    have q_9 := GI_8 hG k
    have q_10 := GI_9 hG k
    refine lv_iload_n hF.1 hF.2.1 dX0_isTooNear_21 rfl (lv_at hl 2 rfl) ?_
    refine zi_add hF.1 hF.2.1 dX0_isTooNear_22 ?_
    refine zi_icmp_ge (tgt := 30) hF.1 hF.2.1 (a := σ 8 j) (b := (σ 8 k + σ 9 k) + ch) dX0_isTooNear_23 (by decide) (by omega) (by omega) (fun c_23 => ?_) (fun c_23 => ?_)
    · skip
      refine zi_const hF.1 hF.2.1 dX0_isTooNear_30 ?_
      exact z_reti (P := fun z _ => z = b2i (nr σ k j ch)) (z := 0) (u := ()) (w := fun _ => gC c h σ κ ω) hF hr hlocks hP hS ((iz_nar_z (by first | omega | exact b2i_rg)).1) (by first | exact (b2i_t (by unfold nr; omega)).symm | exact (b2i_f (by unfold nr; omega)).symm) dX0_isTooNear_31
    · skip
      refine zi_const hF.1 hF.2.1 dX0_isTooNear_26 ?_
      refine lv_goto (tgt := 31) hF.1 hF.2.1 dX0_isTooNear_27 (by decide) ?_
      exact z_reti (P := fun z _ => z = b2i (nr σ k j ch)) (z := 1) (u := ()) (w := fun _ => gC c h σ κ ω) hF hr hlocks hP hS ((iz_nar_z (by first | omega | exact b2i_rg)).1) (by first | exact (b2i_t (by unfold nr; omega)).symm | exact (b2i_f (by unfold nr; omega)).symm) dX0_isTooNear_31

set_option maxRecDepth 100000 in
set_option maxHeartbeats 4000000 in
theorem c_X0_withinStrength (l : Launch) (h : Nat → Nat) (D : va_G) (c : Nat → ClassId) (σ κ : Nat → Nat → Int) (ω : Nat × (Nat → Int32) × Int32) (hinj : ∀ i j, i < 32 → j < 32 → h i = h j → i = j) (hG : GI σ) (x : Int) (hx : -1000 ≤ x ∧ x ≤ 1000) :
    zMi (S := Unit) l yX0_withinStrength cX0_withinStrength 1 (some .int) 1 14 [.int (iz (x))] 32 h D (gT c) (gC c h (σ) (κ) (ω)) (fun _ => gC c h σ κ ω) (fun z _ => z = max 0 (min x 200)) := by
  refine zM_of (by decide) (Nat.le_of_ble_eq_true rfl) ?_
  intro p e s m below meth cd ls ⟨hF, hr, hlocks, hK⟩ hP hl
  have hz : zD (zA 32 h s.heap.size) 32 h := zD.self hinj s.heap.size
  have hA : ∀ q, s.heap.size ≤ q → zA 32 h s.heap.size q := zA_new
  generalize zA 32 h s.heap.size = A at hz hA ⊢
  have hS : va_S A s.heap s.heap [] := va_S.rf
  have hl : lv_has ls 1 [(0, .int (iz (x)))] := hl
  refine zi_const hF.1 hF.2.1 dX0_withinStrength_0 ?_
  refine lv_iload_n hF.1 hF.2.1 dX0_withinStrength_1 rfl (lv_at hl 0 rfl) ?_
  refine zi_sipush hF.1 hF.2.1 dX0_withinStrength_2 (by decide) ?_
  refine zi_min hF hl.1 mw_15 mw_16 mw_17 mw_18 (Nat.le_of_ble_eq_true rfl) (Nat.le_of_ble_eq_true rfl) (Nat.le_refl _) (Nat.le_refl _) (a := x) (b := 200) (by omega) (by omega) dX0_withinStrength_5 ?_
  refine zi_max hF hl.1 mw_19 mw_20 mw_17 mw_21 (Nat.le_of_ble_eq_true rfl) (Nat.le_of_ble_eq_true rfl) (Nat.le_refl _) (Nat.le_refl _) (a := 0) (b := min (x) (200)) (by omega) (by omega) dX0_withinStrength_8 ?_
  exact z_reti (P := fun z _ => z = max 0 (min x 200)) (z := max (0) (min (x) (200))) (u := ()) (w := fun _ => gC c h σ κ ω) hF hr hlocks hP hS (rfl) (rfl) dX0_withinStrength_11

set_option maxRecDepth 100000 in
set_option maxHeartbeats 4000000 in
theorem c_X1_hits (l : Launch) (h : Nat → Nat) (D : va_G) (c : Nat → ClassId) (σ κ : Nat → Nat → Int) (ω : Nat × (Nat → Int32) × Int32) (hinj : ∀ i j, i < 32 → j < 32 → h i = h j → i = j) (hG : GI σ) (sx : Nat) (hsx : sx < 5) (k : Nat) (hk : k < 16) :
    zMi (S := Unit) l yX1_hits cX1_hits 2 (some .boolean) 1 20 [.ref (h (sx + 27)), .ref (h (k + 11))] 32 h D (gT c) (gC c h (σ) (κ) (ω)) (fun _ => gC c h σ κ ω) (fun z _ => z = b2i (hit σ sx k)) := by
  refine zM_of (by decide) (Nat.le_of_ble_eq_true rfl) ?_
  intro p e s m below meth cd ls ⟨hF, hr, hlocks, hK⟩ hP hl
  have hz : zD (zA 32 h s.heap.size) 32 h := zD.self hinj s.heap.size
  have hA : ∀ q, s.heap.size ≤ q → zA 32 h s.heap.size q := zA_new
  generalize zA 32 h s.heap.size = A at hz hA ⊢
  have hS : va_S A s.heap s.heap [] := va_S.rf
  have hl : lv_has ls 2 [(0, .ref (h (sx + 27))), (1, .ref (h (k + 11)))] := hl
  refine lv_aload_n hF.1 hF.2.1 dX1_hits_0 rfl (lv_at hl 0 rfl) ?_
  refine z_get hF hK hP (k := sx + 27) (C := RX1) (T := TX1) (N := 3) (by omega) (gC_storm) rfl uin_X1 0 (by decide) mw_30 (v := .int (iz (σ 16 sx))) rfl dX1_hits_1 ?_
  have q_1 := GI_16 hG (sx)
  refine lv_aload_n hF.1 hF.2.1 dX1_hits_4 rfl (lv_at hl 1 rfl) ?_
  refine z_getN hF hK hP (k := k + 11) (C := RX0) (T := TX0) (N := 9) (by omega) (gC_act (by omega)) rfl uin_X0 0 (by decide) nw_16 (v := .int (iz (σ 7 k))) rfl dX1_hits_5 ?_
  have q_2 := GI_7 hG (k)
  refine zi_icmp_ne (tgt := 37) hF.1 hF.2.1 (a := σ 16 sx) (b := σ 7 k) dX1_hits_8 (by decide) (by omega) (by omega) (fun c_8 => ?_) (fun c_8 => ?_)
  · skip
    refine zi_const hF.1 hF.2.1 dX1_hits_37 ?_
    exact z_reti (P := fun z _ => z = b2i (hit σ sx k)) (z := 0) (u := ()) (w := fun _ => gC c h σ κ ω) hF hr hlocks hP hS ((iz_nar_z (by first | omega | exact b2i_rg)).1) (by first | exact (b2i_t (by unfold hit; omega)).symm | exact (b2i_f (by unfold hit; omega)).symm) dX1_hits_38
  · skip
    refine lv_aload_n hF.1 hF.2.1 dX1_hits_11 rfl (lv_at hl 1 rfl) ?_
    refine z_getN hF hK hP (k := k + 11) (C := RX0) (T := TX0) (N := 9) (by omega) (gC_act (by omega)) rfl uin_X0 1 (by decide) nw_17 (v := .int (iz (σ 8 k))) rfl dX1_hits_12 ?_
    have q_3 := GI_8 hG (k)
    refine lv_aload_n hF.1 hF.2.1 dX1_hits_15 rfl (lv_at hl 0 rfl) ?_
    refine z_get hF hK hP (k := sx + 27) (C := RX1) (T := TX1) (N := 3) (by omega) (gC_storm) rfl uin_X1 2 (by decide) mw_32 (v := .int (iz (σ 18 sx))) rfl dX1_hits_16 ?_
    have q_4 := GI_18 hG (sx)
    refine zi_icmp_ge (tgt := 37) hF.1 hF.2.1 (a := σ 8 k) (b := σ 18 sx) dX1_hits_19 (by decide) (by omega) (by omega) (fun c_19 => ?_) (fun c_19 => ?_)
    · skip
      refine zi_const hF.1 hF.2.1 dX1_hits_37 ?_
      exact z_reti (P := fun z _ => z = b2i (hit σ sx k)) (z := 0) (u := ()) (w := fun _ => gC c h σ κ ω) hF hr hlocks hP hS ((iz_nar_z (by first | omega | exact b2i_rg)).1) (by first | exact (b2i_t (by unfold hit; omega)).symm | exact (b2i_f (by unfold hit; omega)).symm) dX1_hits_38
    · skip
      refine lv_aload_n hF.1 hF.2.1 dX1_hits_22 rfl (lv_at hl 0 rfl) ?_
      refine z_get hF hK hP (k := sx + 27) (C := RX1) (T := TX1) (N := 3) (by omega) (gC_storm) rfl uin_X1 1 (by decide) mw_33 (v := .int (iz (σ 17 sx))) rfl dX1_hits_23 ?_
      have q_5 := GI_17 hG (sx)
      refine lv_aload_n hF.1 hF.2.1 dX1_hits_26 rfl (lv_at hl 1 rfl) ?_
      refine z_ci (S := Unit) (w := fun _ => gC c h σ κ ω) (P := fun z _ => z = σ 8 k + σ 9 k) (z_runVN (rm := { frames := 0, cells := 0, slots := 0, locals := 0 }) hF hK hP (c_X0_end l h D c σ κ ω hinj hG k (by omega) _) mw_4 nw_25 mw_13 mw_11 mw_12 rfl rfl ⟨by decide, by decide, rfl⟩ ⟨Nat.le_of_ble_eq_true rfl, Nat.le_of_ble_eq_true rfl⟩ (k := k + 11) (T := TX0) (N := 9) (by omega) rfl (gC_act (by omega)) rfl (As := []) (rest := [.int (iz (σ 17 sx))]) rfl hl.1 rfl (Nat.le_of_ble_eq_true rfl) dX1_hits_27 ⟨Nat.le_refl _, Nat.le_refl _⟩) hz hA hS (fun z_6 u_7 H locs hp hP hS => ?_)
      obtain rfl : z_6 = σ 8 k + σ 9 k := hp
      have q_8 := GI_8 hG k
      have q_9 := GI_9 hG k
      refine zi_icmp_ge (tgt := 37) hF.1 hF.2.1 (a := σ 17 sx) (b := σ 8 k + σ 9 k) dX1_hits_30 (by decide) (by omega) (by omega) (fun c_30 => ?_) (fun c_30 => ?_)
      · skip
        refine zi_const hF.1 hF.2.1 dX1_hits_37 ?_
        exact z_reti (P := fun z _ => z = b2i (hit σ sx k)) (z := 0) (u := ()) (w := fun _ => gC c h σ κ ω) hF hr hlocks hP hS ((iz_nar_z (by first | omega | exact b2i_rg)).1) (by first | exact (b2i_t (by unfold hit; omega)).symm | exact (b2i_f (by unfold hit; omega)).symm) dX1_hits_38
      · skip
        refine zi_const hF.1 hF.2.1 dX1_hits_33 ?_
        refine lv_goto (tgt := 38) hF.1 hF.2.1 dX1_hits_34 (by decide) ?_
        exact z_reti (P := fun z _ => z = b2i (hit σ sx k)) (z := 1) (u := ()) (w := fun _ => gC c h σ κ ω) hF hr hlocks hP hS ((iz_nar_z (by first | omega | exact b2i_rg)).1) (by first | exact (b2i_t (by unfold hit; omega)).symm | exact (b2i_f (by unfold hit; omega)).symm) dX1_hits_38

theorem bt_iff {z cz : Int} (h : 0 ≤ cz ∧ cz < 32) : ian (ius z cz) 1 ≠ 0 ↔ bt z cz.toNat := by
  sorry

set_option maxRecDepth 100000 in
set_option maxHeartbeats 4000000 in
theorem c_X3_hasChannel (l : Launch) (h : Nat → Nat) (D : va_G) (c : Nat → ClassId) (σ κ : Nat → Nat → Int) (ω : Nat × (Nat → Int32) × Int32) (hinj : ∀ i j, i < 32 → j < 32 → h i = h j → i = j) (hG : GI σ) (z : Int) (cz : Int) (hcz : -100 ≤ cz ∧ cz ≤ 100) :
    zMi (S := Unit) l yX3_hasChannel cX3_hasChannel 2 (some .boolean) 0 0 [.int (iz (z)), .int (iz (cz))] 32 h D (gT c) (gC c h (σ) (κ) (ω)) (fun _ => gC c h σ κ ω) (fun r _ => r = b2i (hc z cz)) := by
  refine zM_of (by decide) (Nat.le_of_ble_eq_true rfl) ?_
  intro p e s m below meth cd ls ⟨hF, hr, hlocks, hK⟩ hP hl
  have hz : zD (zA 32 h s.heap.size) 32 h := zD.self hinj s.heap.size
  have hA : ∀ q, s.heap.size ≤ q → zA 32 h s.heap.size q := zA_new
  generalize zA 32 h s.heap.size = A at hz hA ⊢
  have hS : va_S A s.heap s.heap [] := va_S.rf
  have hl : lv_has ls 2 [(0, .int (iz (z))), (1, .int (iz (cz)))] := hl
  refine lv_iload_n hF.1 hF.2.1 dX3_hasChannel_0 rfl (lv_at hl 1 rfl) ?_
  refine zi_if_lt (tgt := 22) hF.1 hF.2.1 (a := cz) dX3_hasChannel_1 (by decide) (by omega) (fun c_1 => ?_) (fun c_1 => ?_)
  · skip
    refine zi_const hF.1 hF.2.1 dX3_hasChannel_22 ?_
    exact z_reti (P := fun r _ => r = b2i (hc z cz)) (z := 0) (u := ()) (w := fun _ => gC c h σ κ ω) hF hr hlocks hP hS ((iz_nar_z (by first | omega | exact b2i_rg)).1) (by first | exact (b2i_t (by unfold hc; exact ⟨by omega, by omega, (bt_iff (by omega)).mp c_15⟩)).symm | exact (b2i_f (by unfold hc; omega)).symm | exact (b2i_f (by unfold hc; rintro ⟨q1, q2, q3⟩; exact (bt_iff (by omega)).mpr q3 c_15)).symm) dX3_hasChannel_23
  · skip
    refine lv_iload_n hF.1 hF.2.1 dX3_hasChannel_4 rfl (lv_at hl 1 rfl) ?_
    refine zi_bipush hF.1 hF.2.1 dX3_hasChannel_5 (by decide) ?_
    refine zi_icmp_ge (tgt := 22) hF.1 hF.2.1 (a := cz) (b := 32) dX3_hasChannel_7 (by decide) (by omega) (by omega) (fun c_7 => ?_) (fun c_7 => ?_)
    · skip
      refine zi_const hF.1 hF.2.1 dX3_hasChannel_22 ?_
      exact z_reti (P := fun r _ => r = b2i (hc z cz)) (z := 0) (u := ()) (w := fun _ => gC c h σ κ ω) hF hr hlocks hP hS ((iz_nar_z (by first | omega | exact b2i_rg)).1) (by first | exact (b2i_t (by unfold hc; exact ⟨by omega, by omega, (bt_iff (by omega)).mp c_15⟩)).symm | exact (b2i_f (by unfold hc; omega)).symm | exact (b2i_f (by unfold hc; rintro ⟨q1, q2, q3⟩; exact (bt_iff (by omega)).mpr q3 c_15)).symm) dX3_hasChannel_23
    · skip
      refine lv_iload_n hF.1 hF.2.1 dX3_hasChannel_10 rfl (lv_at hl 0 rfl) ?_
      refine lv_iload_n hF.1 hF.2.1 dX3_hasChannel_11 rfl (lv_at hl 1 rfl) ?_
      refine zi_iushr hF.1 hF.2.1 (a := z) (b := cz) dX3_hasChannel_12 ?_
      have q_1 : -2147483648 ≤ ius z cz ∧ ius z cz ≤ 2147483647 := ti_rg _
      refine zi_const hF.1 hF.2.1 dX3_hasChannel_13 ?_
      refine zi_iand hF.1 hF.2.1 (a := ius z cz) (b := 1) dX3_hasChannel_14 ?_
      have q_2 : -2147483648 ≤ ian (ius z cz) 1 ∧ ian (ius z cz) 1 ≤ 2147483647 := ti_rg _
      refine zi_if_eq (tgt := 22) hF.1 hF.2.1 (a := ian (ius z cz) 1) dX3_hasChannel_15 (by decide) (by omega) (fun c_15 => ?_) (fun c_15 => ?_)
      · skip
        refine zi_const hF.1 hF.2.1 dX3_hasChannel_22 ?_
        exact z_reti (P := fun r _ => r = b2i (hc z cz)) (z := 0) (u := ()) (w := fun _ => gC c h σ κ ω) hF hr hlocks hP hS ((iz_nar_z (by first | omega | exact b2i_rg)).1) (by first | exact (b2i_t (by unfold hc; exact ⟨by omega, by omega, (bt_iff (by omega)).mp c_15⟩)).symm | exact (b2i_f (by unfold hc; omega)).symm | exact (b2i_f (by unfold hc; rintro ⟨q1, q2, q3⟩; exact (bt_iff (by omega)).mpr q3 c_15)).symm) dX3_hasChannel_23
      · skip
        refine zi_const hF.1 hF.2.1 dX3_hasChannel_18 ?_
        refine lv_goto (tgt := 23) hF.1 hF.2.1 dX3_hasChannel_19 (by decide) ?_
        exact z_reti (P := fun r _ => r = b2i (hc z cz)) (z := 1) (u := ()) (w := fun _ => gC c h σ κ ω) hF hr hlocks hP hS ((iz_nar_z (by first | omega | exact b2i_rg)).1) (by first | exact (b2i_t (by unfold hc; exact ⟨by omega, by omega, (bt_iff (by omega)).mp c_15⟩)).symm | exact (b2i_f (by unfold hc; omega)).symm | exact (b2i_f (by unfold hc; rintro ⟨q1, q2, q3⟩; exact (bt_iff (by omega)).mpr q3 c_15)).symm) dX3_hasChannel_23
end
section
theorem i_vc : Claimed_1_1 ∧ Claimed_1_2 := sorry
end
