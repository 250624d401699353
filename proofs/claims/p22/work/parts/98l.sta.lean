/-! the start -/
theorem ra_int {args : Array Value} {s : State} (h : (Cond.arrayClass .int).before args s = true) : ∃ cA, ArrOfT s cA .int ∧ va_RA s cA .int := by
  obtain ⟨cA, kA, comp, h1, h2, h3⟩ := Cond.arrayClass_spec h
  exact ⟨cA, fun n z => ⟨fun k h => (by cases h), kA, h2, comp, h3⟩, h1⟩
theorem ra_byte {args : Array Value} {s : State} (h : (Cond.arrayClass .byte).before args s = true) : ∃ cA, ArrOfT s cA .byte ∧ va_RA s cA .byte := by
  obtain ⟨cA, kA, comp, h1, h2, h3⟩ := Cond.arrayClass_spec h
  exact ⟨cA, fun n z => ⟨fun k h => (by cases h), kA, h2, comp, h3⟩, h1⟩
theorem ra_obj {args : Array Value} {s : State} {C : String} (h : (Cond.arrayOver (.object C)).before args s = true) : ∃ cA, ArrOfT s cA (.object C) ∧ va_RA s cA (.object C) := by
  obtain ⟨comp, cA, kA, h1, h2, h3, h4, h5⟩ := Cond.arrayOver_spec h
  exact ⟨cA, fun n z => ⟨fun k h => (by cases h), kA, h3, comp, h4⟩, kA, comp, h3, h4, h1, h5⟩
theorem uin_Jx1 : ∀ w ∈ u_ws RJx00060 TJx00060 6, w ∈ UW := UW_of (by decide +kernel)
theorem uin_Jx2 : ∀ w ∈ u_ws RJx7c733 TJx7c733 6, w ∈ UW := UW_of (by decide +kernel)
/-- the classes and the row classes that stand at the start -/
theorem zK_start {args : Array Value} {s : State} (hts : ∀ w ∈ lw_tbl, w.before args s = true) : ∃ (D : va_G) (c : Nat → ClassId), zK D (gT c) s := by
  have hu := UW_all hts
  obtain ⟨d0, e0, g0⟩ := u_known hu uin_J0 (hts (.instantiable RJ0 4) (by decide +kernel))
  obtain ⟨d1, e1, g1⟩ := u_known hu uin_J4 (hts (.instantiable RJ4 4) (by decide +kernel))
  obtain ⟨d2, e2, g2⟩ := u_known hu uin_Jx1 (hts (.instantiable RJx00060 6) (by decide +kernel))
  obtain ⟨d3, e3, g3⟩ := u_known hu uin_Jx2 (hts (.instantiable RJx7c733 6) (by decide +kernel))
  obtain ⟨d4, e4, g4⟩ := u_known hu uin_X0 (hts (.instantiable RX0 9) (by decide +kernel))
  obtain ⟨d5, e5, g5⟩ := u_known hu uin_X1 (hts (.instantiable RX1 3) (by decide +kernel))
  obtain ⟨d6, e6, g6⟩ := u_known hu uin_X3 (hts (.instantiable RX3 14) (by decide +kernel))
  obtain ⟨a0, p0, q0⟩ := ra_int (hts (.arrayClass .int) (by decide +kernel))
  obtain ⟨a1, p1, q1⟩ := ra_byte (hts (.arrayClass .byte) (by decide +kernel))
  obtain ⟨a2, p2, q2⟩ := ra_obj (hts (.arrayOver (.object "Festivalgrid$Act")) (by decide +kernel))
  obtain ⟨a3, p3, q3⟩ := ra_obj (hts (.arrayOver (.object "Festivalgrid$Storm")) (by decide +kernel))
  refine ⟨(fun k => match k with | 0 => d0 | 1 => d1 | 2 => d2 | 3 => d3 | 4 => d4 | 5 => d5 | _ => d6, fun k => match k with | 0 => e0 | 1 => e1 | 2 => e2 | 3 => e3 | 4 => e4 | 5 => e5 | _ => e6), fun k => match k with | 0 => a0 | 1 => a1 | 2 => a2 | _ => a3, ⟨fun k q hq => ?_, fun k q hq => ?_⟩, NW_all hts⟩
  · match k, hq with
    | 0, hq => cases hq; exact g0
    | 1, hq => cases hq; exact g1
    | 2, hq => cases hq; exact g2
    | 3, hq => cases hq; exact g3
    | 4, hq => cases hq; exact g4
    | 5, hq => cases hq; exact g5
    | 6, hq => cases hq; exact g6
    | k + 7, hq => simp [vwCl] at hq
  · match k, hq with
    | 0, hq => cases hq; exact ⟨p0, q0⟩
    | 1, hq => cases hq; exact ⟨p1, q1⟩
    | 2, hq => cases hq; exact ⟨p2, q2⟩
    | 3, hq => cases hq; exact ⟨p3, q3⟩
    | k + 4, hq => simp [gT] at hq
def wNm : List String := ["LIGHT", "DARK", "LOUD", "SOFT", "AIR"]
def wKy : List Nat := [54, 60, 63, 66, 69]
theorem exa {args : Array Value} {s : State} {tm : Term} {cls : String} (h : (Cond.exactly tm cls).before args s = true) : ∃ a : Nat, tm.eval args s none [] s = some (.ref a) := by
  obtain ⟨a, c, cell, k, h1, -⟩ := Cond.exactly_spec h
  exact ⟨a, h1⟩
section ST0
variable {args : Array Value} {s : State} {A : Nat → Prop}
/-- the wishes -/
theorem zWi_start (hts : ∀ w ∈ lw_tbl, w.before args s = true) (hn : ∀ w ∈ flatC (Jvm.Cond.and given_1 narrow_1), w.before args s = true) (hA : ∀ a : Nat, a < s.heap.size → ¬ A a) : ∃ (t : Nat) (ad adK adV : Nat → Nat), zWi t ad adK adV A s s.heap := by
  have hev0 : ∀ i, ∃ a : Nat, i < 5 → (Term.static RX2 (wNm.getD i "") "LFestivalgrid$Wish;").eval args s none [] s = some (.ref a) := fun i => by
    rcases Nat.lt_or_ge i 5 with hi | hi
    · have : (Cond.exactly (Term.static RX2 (wNm.getD i "") "LFestivalgrid$Wish;") "Festivalgrid$Wish").before args s = true := by
        rcases (show i = 0 ∨ i = 1 ∨ i = 2 ∨ i = 3 ∨ i = 4 by omega) with rfl | rfl | rfl | rfl | rfl <;> exact hn _ (by decide +kernel)
      obtain ⟨a, h⟩ := exa this
      exact ⟨a, fun _ => h⟩
    · exact ⟨0, fun h => by omega⟩
  have hc := Classical.axiomOfChoice hev0
  obtain ⟨ad, hev⟩ := hc
  obtain ⟨adK, adV, hS, hK⟩ := vk_Sof (args := args) (s := s) (N := 5) (tm := fun i => Term.string "Festivalgrid$Wish" (wKy.getD i 0)) (len := wLen) (byt := wByt) (A := A)
    (fun i hi => by rcases (show i = 0 ∨ i = 1 ∨ i = 2 ∨ i = 3 ∨ i = 4 by omega) with rfl | rfl | rfl | rfl | rfl <;> decide)
    (fun i hi => by rcases (show i = 0 ∨ i = 1 ∨ i = 2 ∨ i = 3 ∨ i = 4 by omega) with rfl | rfl | rfl | rfl | rfl <;> exact hn _ (by decide +kernel))
    (fun i hi => by rcases (show i = 0 ∨ i = 1 ∨ i = 2 ∨ i = 3 ∨ i = 4 by omega) with rfl | rfl | rfl | rfl | rfl <;> exact hn _ (by decide +kernel))
    (fun i hi => by rcases (show i = 0 ∨ i = 1 ∨ i = 2 ∨ i = 3 ∨ i = 4 by omega) with rfl | rfl | rfl | rfl | rfl <;> exact hn _ (by decide +kernel))
    (fun i hi => by rcases (show i = 0 ∨ i = 1 ∨ i = 2 ∨ i = 3 ∨ i = 4 by omega) with rfl | rfl | rfl | rfl | rfl <;> exact hn _ (by decide +kernel))
    (fun i hi j hj => by
      have h5 : j < 5 := by
        rcases (show i = 0 ∨ i = 1 ∨ i = 2 ∨ i = 3 ∨ i = 4 by omega) with rfl | rfl | rfl | rfl | rfl <;> simp [wLen] at hj <;> omega
      rcases (show i = 0 ∨ i = 1 ∨ i = 2 ∨ i = 3 ∨ i = 4 by omega) with rfl | rfl | rfl | rfl | rfl <;> rcases (show j = 0 ∨ j = 1 ∨ j = 2 ∨ j = 3 ∨ j = 4 by omega) with rfl | rfl | rfl | rfl | rfl <;> first
        | exact absurd hj (by decide)
        | exact hn _ (by decide +kernel))
    (fun i j hi hj hij => by
      rcases (show i = 0 ∨ i = 1 ∨ i = 2 ∨ i = 3 ∨ i = 4 by omega) with rfl | rfl | rfl | rfl | rfl <;> rcases (show j = 0 ∨ j = 1 ∨ j = 2 ∨ j = 3 ∨ j = 4 by omega) with rfl | rfl | rfl | rfl | rfl <;> first
        | exact absurd rfl hij
        | exact Or.inl (hn _ (by decide +kernel))
        | exact Or.inr (hn _ (by decide +kernel))) hA
  obtain ⟨t, ht, hT⟩ := va_Tof (args := args) (s := s) (tm := Term.static RX3 "WISHES" "[LFestivalgrid$Wish;") (ty := .object RX2) (N := 5) (f := fun j => .ref (ad j)) (A := A) (by decide) (hn _ (by decide +kernel)) (va_eqt (hn (Cond.eq (Term.length (Term.static RX3 "WISHES" "[LFestivalgrid$Wish;")) (Term.int 5)) (by decide +kernel)))
    (fun j hj => by
      refine va_eqv (u := Term.static RX2 (wNm.getD j "") "LFestivalgrid$Wish;") ?_ (hev j hj)
      rcases (show j = 0 ∨ j = 1 ∨ j = 2 ∨ j = 3 ∨ j = 4 by omega) with rfl | rfl | rfl | rfl | rfl <;> exact hn _ (by decide +kernel)) hA
  refine ⟨t, ad, adK, adV, va_Zof (hts (.laysStatic RX3 "WISHES" "[LFestivalgrid$Wish;") (by decide +kernel)) (hts (.initialized RX3) (by decide +kernel)) ht hA, hT, ?_, ?_, ?_, ?_, hS⟩
  · exact va_Efof (E := RX2) (d0 := "LFestivalgrid$Wish;") (nm := wNm) (tm := fun i => .int (iz (wDr i))) hev (fun i hi => by rcases (show i = 0 ∨ i = 1 ∨ i = 2 ∨ i = 3 ∨ i = 4 by omega) with rfl | rfl | rfl | rfl | rfl <;> exact hn _ (by decide +kernel)) (fun i hi => rfl) hA
  · exact va_Efof (E := RX2) (d0 := "LFestivalgrid$Wish;") (nm := wNm) (tm := fun i => .int (iz (wLo i))) hev (fun i hi => by rcases (show i = 0 ∨ i = 1 ∨ i = 2 ∨ i = 3 ∨ i = 4 by omega) with rfl | rfl | rfl | rfl | rfl <;> exact hn _ (by decide +kernel)) (fun i hi => rfl) hA
  · exact va_Efof (E := RX2) (d0 := "LFestivalgrid$Wish;") (nm := wNm) (tm := fun i => .int (iz (wNx i))) hev (fun i hi => by rcases (show i = 0 ∨ i = 1 ∨ i = 2 ∨ i = 3 ∨ i = 4 by omega) with rfl | rfl | rfl | rfl | rfl <;> exact hn _ (by decide +kernel)) (fun i hi => rfl) hA
  · exact va_Efof (E := RX2) (d0 := "LFestivalgrid$Wish;") (nm := wNm) (tm := fun i => Term.string "Festivalgrid$Wish" (wKy.getD i 0)) hev (fun i hi => by rcases (show i = 0 ∨ i = 1 ∨ i = 2 ∨ i = 3 ∨ i = 4 by omega) with rfl | rfl | rfl | rfl | rfl <;> exact hn _ (by decide +kernel)) (fun i hi => hK i hi) hA
theorem zX_start (hts : ∀ w ∈ lw_tbl, w.before args s = true) (hn : ∀ w ∈ flatC (Jvm.Cond.and given_1 narrow_1), w.before args s = true) (hA : ∀ a : Nat, a < s.heap.size → ¬ A a) : zX A s s.heap := by
  refine ⟨vx_Zqof (hts _ (by decide +kernel)) (hts _ (by decide +kernel)) (hn _ (by decide +kernel)) hA, vx_Zqof (hts _ (by decide +kernel)) (hts _ (by decide +kernel)) (hn _ (by decide +kernel)) hA, ?_, va_Zof (hts _ (by decide +kernel)) (hts _ (by decide +kernel)) (va_eqt (hn _ (by decide +kernel))) hA, ?_, zWi_start hts hn hA⟩
  · intro r hr
    have h1 : (Cond.exactly (Term.string RX3 r.1) "java/lang/String").before args s = true ∧ (Cond.stringRef RX3 r.1 r.2).before args s = true := by
      simp only [zTx, List.mem_cons, List.not_mem_nil, or_false] at hr
      rcases hr with rfl | rfl | rfl | rfl | rfl | rfl | rfl | rfl | rfl | rfl | rfl | rfl | rfl <;> exact ⟨hn _ (by decide +kernel), hts _ (by decide +kernel)⟩
    obtain ⟨a, h2⟩ := exa h1.1
    exact ⟨a, vk_R.of h1.2 h2⟩
  · exact va_tabs rfl rfl (sel_priv (x0 := ⟨"java/lang/AbstractStringBuilder", "isLatin1", "()Z"⟩) (y0 := ⟨"java/lang/AbstractStringBuilder", "isLatin1", "()Z"⟩) (hts _ (by decide +kernel)) rfl ⟨by decide, by decide⟩ (hts _ (by decide +kernel)) (hts _ (by decide +kernel)))
theorem zNc_start (hn : ∀ w ∈ flatC (Jvm.Cond.and given_1 narrow_1), w.before args s = true) : zNcs s :=
  ⟨va_Nc.of (hn _ (by decide +kernel)), va_Nc.of (hn _ (by decide +kernel)), va_Nc.of (hn _ (by decide +kernel))⟩
end ST0
