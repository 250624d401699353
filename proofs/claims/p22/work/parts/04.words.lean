/-! the tables' good words: one list for all methods -/
def UW : List Cond := lw_tbl.filter goodWord
theorem UW_good : ∀ w ∈ UW, goodWord w = true := fun w h => (List.mem_filter.mp h).2
theorem UW_mem {w : Cond} (h : w ∈ lw_tbl) (g : goodWord w = true) : w ∈ UW := List.mem_filter.mpr ⟨h, g⟩
theorem UW_gd {w : Cond} (h : w ∈ UW) : w ∈ UW ∧ ((w.onTables && w.keeps) = true ∨ ∃ ty, w = .arrayClass ty) := ⟨h, good_of_word (UW_good w h)⟩
def isNW : Cond → Bool
  | .fieldLinkNest .. => true
  | .methodLinkNest .. => true
  | .castable .. => true
  | .declares _ => true
  | _ => false
/-- the words that are handed on by premises of their own -/
def NW : List Cond := lw_tbl.filter isNW
theorem NW_mem {w : Cond} (h : w ∈ lw_tbl) (g : isNW w = true) : w ∈ NW := List.mem_filter.mpr ⟨h, g⟩
theorem NW_is {w : Cond} (h : w ∈ NW) : isNW w = true := (List.mem_filter.mp h).2
theorem NW_on {w : Cond} (h : isNW w = true) : w.onTables = true := by
  cases w <;> first | rfl | (simp [isNW] at h)
theorem NW_warm {w : Cond} (h : isNW w = true) {s U : State} (hW : s.WarmedH U.vm) (hZ : va_Nw w s) : va_Nw w U := by
  cases w <;> first | exact va_Nw.warmF hW hZ | exact va_Nw.warmM hW hZ | exact va_Nw.warmC hW hZ | exact va_Nw.warmD hW hZ | (simp [isNW] at h)
theorem UW_all {args : Array Value} {s : State} (h : ∀ w ∈ lw_tbl, w.before args s = true) : ∀ w ∈ UW, w.before args s = true := fun w hw => h w (List.mem_filter.mp hw).1
theorem NW_all {args : Array Value} {s : State} (h : ∀ w ∈ lw_tbl, w.before args s = true) : ∀ w ∈ NW, va_Nw w s := fun w hw => va_Nw.of (NW_on (NW_is hw)) (h w (List.mem_filter.mp hw).1)
/-- a call's words out of UW -/
theorem gIn_V {own C : String} {idx maxL : Nat} {y : MethodName} {cy : ByteArray} {ret : Option FieldType} (h1 : Cond.methodLink own idx y ∈ UW) (h2 : Cond.instanceMethod y ∈ UW) (h3 : Cond.selects C y y ∈ UW) (h4 : Cond.initialized C ∈ UW) (h5 : Cond.code y cy maxL ret ∈ UW) :
    GoodIn UW (wsV own idx C y (.code y cy maxL ret :: UW)) := by
  intro w hw
  simp only [wsV, List.mem_append, List.mem_cons, List.not_mem_nil, or_false] at hw
  rcases hw with (rfl | rfl | rfl | rfl) | (rfl | hw)
  · exact UW_gd h1
  · exact UW_gd h2
  · exact UW_gd h3
  · exact UW_gd h4
  · exact UW_gd h5
  · exact UW_gd hw
theorem gIn_S {own : String} {idx maxL : Nat} {y : MethodName} {cy : ByteArray} {ret : Option FieldType} (h1 : Cond.methodLink own idx y ∈ UW) (h2 : Cond.static y ∈ UW) (h4 : Cond.initialized own ∈ UW) (h5 : Cond.code y cy maxL ret ∈ UW) :
    GoodIn UW (wsS own idx y (.code y cy maxL ret :: UW)) := by
  intro w hw
  simp only [wsS, List.mem_append, List.mem_cons, List.not_mem_nil, or_false] at hw
  rcases hw with (rfl | rfl | rfl) | (rfl | hw)
  · exact UW_gd h1
  · exact UW_gd h2
  · exact UW_gd h4
  · exact UW_gd h5
  · exact UW_gd hw
theorem gIn_C {maxL : Nat} {y : MethodName} {cy : ByteArray} {ret : Option FieldType} (h5 : Cond.code y cy maxL ret ∈ UW) : GoodIn UW (.code y cy maxL ret :: UW) := by
  intro w hw
  rcases List.mem_cons.mp hw with rfl | hw
  · exact UW_gd h5
  · exact UW_gd hw
theorem UW_of {ws : List Cond} (h : ws.all (fun w => decide (w ∈ lw_tbl) && goodWord w) = true) : ∀ w ∈ ws, w ∈ UW := by
  intro w hw
  have h1 := List.all_eq_true.mp h w hw
  simp only [Bool.and_eq_true, decide_eq_true_eq] at h1
  exact UW_mem h1.1 h1.2

theorem uin_X0 : ∀ w ∈ u_ws RX0 TX0 9, w ∈ UW := UW_of (by decide +kernel)
theorem uin_X1 : ∀ w ∈ u_ws RX1 TX1 3, w ∈ UW := UW_of (by decide +kernel)
theorem uin_X3 : ∀ w ∈ u_ws RX3 TX3 14, w ∈ UW := UW_of (by decide +kernel)
theorem uin_J4 : ∀ w ∈ u_ws RJ4 TJ4 4, w ∈ UW := UW_of (by decide +kernel)
theorem uin_J0 : ∀ w ∈ u_ws RJ0 TJ0 4, w ∈ UW := UW_of (by decide +kernel)
theorem nw_0 : Cond.fieldLinkNest "Festivalgrid" 110 "Festivalgrid$Act" "planned" "Z" "Festivalgrid" ∈ NW := NW_mem (by decide +kernel) rfl
theorem nw_1 : Cond.fieldLinkNest "Festivalgrid" 123 "Festivalgrid$Act" "start" "I" "Festivalgrid" ∈ NW := NW_mem (by decide +kernel) rfl
theorem nw_2 : Cond.fieldLinkNest "Festivalgrid" 149 "Festivalgrid$Act" "draw" "I" "Festivalgrid" ∈ NW := NW_mem (by decide +kernel) rfl
theorem nw_3 : Cond.fieldLinkNest "Festivalgrid" 152 "Festivalgrid$Act" "loud" "I" "Festivalgrid" ∈ NW := NW_mem (by decide +kernel) rfl
theorem nw_4 : Cond.fieldLinkNest "Festivalgrid" 155 "Festivalgrid$Act" "channel" "I" "Festivalgrid" ∈ NW := NW_mem (by decide +kernel) rfl
theorem nw_5 : Cond.fieldLinkNest "Festivalgrid" 169 "Festivalgrid$Storm" "stage" "I" "Festivalgrid" ∈ NW := NW_mem (by decide +kernel) rfl
theorem nw_6 : Cond.fieldLinkNest "Festivalgrid" 172 "Festivalgrid$Storm" "first" "I" "Festivalgrid" ∈ NW := NW_mem (by decide +kernel) rfl
theorem nw_7 : Cond.fieldLinkNest "Festivalgrid" 175 "Festivalgrid$Storm" "end" "I" "Festivalgrid" ∈ NW := NW_mem (by decide +kernel) rfl
theorem nw_8 : Cond.fieldLinkNest "Festivalgrid" 219 "Festivalgrid$Act" "stage" "I" "Festivalgrid" ∈ NW := NW_mem (by decide +kernel) rfl
theorem nw_9 : Cond.fieldLinkNest "Festivalgrid" 220 "Festivalgrid$Act" "length" "I" "Festivalgrid" ∈ NW := NW_mem (by decide +kernel) rfl
theorem nw_10 : Cond.fieldLinkNest "Festivalgrid" 222 "Festivalgrid$Act" "phase" "I" "Festivalgrid" ∈ NW := NW_mem (by decide +kernel) rfl
theorem nw_11 : Cond.fieldLinkNest "Festivalgrid" 273 "Festivalgrid$Act" "waits" "Z" "Festivalgrid" ∈ NW := NW_mem (by decide +kernel) rfl
theorem nw_12 : Cond.fieldLinkNest "Festivalgrid" 288 "Festivalgrid$Wish" "text" "Ljava/lang/String;" "Festivalgrid" ∈ NW := NW_mem (by decide +kernel) rfl
theorem nw_13 : Cond.fieldLinkNest "Festivalgrid$Act" 29 "Festivalgrid$Wish" "moreDraw" "I" "Festivalgrid" ∈ NW := NW_mem (by decide +kernel) rfl
theorem nw_14 : Cond.fieldLinkNest "Festivalgrid$Act" 41 "Festivalgrid$Wish" "moreLoud" "I" "Festivalgrid" ∈ NW := NW_mem (by decide +kernel) rfl
theorem nw_15 : Cond.fieldLinkNest "Festivalgrid$Act" 44 "Festivalgrid$Wish" "nextChannel" "Z" "Festivalgrid" ∈ NW := NW_mem (by decide +kernel) rfl
theorem nw_16 : Cond.fieldLinkNest "Festivalgrid$Storm" 15 "Festivalgrid$Act" "stage" "I" "Festivalgrid" ∈ NW := NW_mem (by decide +kernel) rfl
theorem nw_17 : Cond.fieldLinkNest "Festivalgrid$Storm" 18 "Festivalgrid$Act" "start" "I" "Festivalgrid" ∈ NW := NW_mem (by decide +kernel) rfl
theorem nw_18 : Cond.methodLinkNest "Festivalgrid" 53 ⟨"Festivalgrid$Act", "<init>", "()V"⟩ "Festivalgrid" ∈ NW := NW_mem (by decide +kernel) rfl
theorem nw_19 : Cond.methodLinkNest "Festivalgrid" 54 ⟨"Festivalgrid$Storm", "<init>", "()V"⟩ "Festivalgrid" ∈ NW := NW_mem (by decide +kernel) rfl
theorem nw_20 : Cond.methodLinkNest "Festivalgrid" 158 ⟨"Festivalgrid$Act", "take", "(LFestivalgrid$Wish;)V"⟩ "Festivalgrid" ∈ NW := NW_mem (by decide +kernel) rfl
theorem nw_21 : Cond.methodLinkNest "Festivalgrid" 194 ⟨"Festivalgrid$Act", "end", "()I"⟩ "Festivalgrid" ∈ NW := NW_mem (by decide +kernel) rfl
theorem nw_22 : Cond.methodLinkNest "Festivalgrid" 229 ⟨"Festivalgrid$Storm", "hits", "(LFestivalgrid$Act;)Z"⟩ "Festivalgrid" ∈ NW := NW_mem (by decide +kernel) rfl
theorem nw_23 : Cond.methodLinkNest "Festivalgrid" 232 ⟨"Festivalgrid$Act", "isTooNear", "(LFestivalgrid$Act;I)Z"⟩ "Festivalgrid" ∈ NW := NW_mem (by decide +kernel) rfl
theorem nw_24 : Cond.methodLinkNest "Festivalgrid" 236 ⟨"Festivalgrid$Act", "playsAt", "(I)Z"⟩ "Festivalgrid" ∈ NW := NW_mem (by decide +kernel) rfl
theorem nw_25 : Cond.methodLinkNest "Festivalgrid$Storm" 27 ⟨"Festivalgrid$Act", "end", "()I"⟩ "Festivalgrid" ∈ NW := NW_mem (by decide +kernel) rfl
