/-! a new object of the class, in a method of the law -/
def zNA : (Nat → Prop) → State → Heap → Prop := fun A U H => zNcs U ∧ zAO A U H
theorem zNA_st : zSt zNA := ⟨fun A B s U H locs h hS hW hB => ⟨zNc_st.1 A B s U H locs h.1 hS hW hB, zAO_st.1 A B s U H locs h.2 hS hW hB⟩, fun A s U H hv h => ⟨zNc_st.2 A s U H hv h.1, zAO_st.2 A s U H hv h.2⟩⟩
def d0 : Da := ([], [0, 0, 0], [60, 60, 60], [0, 0, 0, 0, 0, 0, 0, 0, 0, 0, 0, 0, 0, 0, 0, 0, 0], [ac0, ac0, ac0, ac0, ac0, ac0, ac0, ac0, ac0, ac0, ac0, ac0, ac0, ac0, ac0, ac0], 0, [])
theorem ES_0 : ES sig0 d0 := by
  refine ⟨GI_sig0, by decide, ⟨rfl, fun i hi => absurd hi (Nat.not_lt_zero _)⟩, fun i hi => ?_, fun i hi => ?_, fun i hi => ?_, ⟨rfl, fun k hk => ?_⟩, rfl, fun s hs => absurd hs (Nat.not_lt_zero _), fun s _ _ => rfl⟩
  · rcases (show i = 0 ∨ i = 1 ∨ i = 2 by omega) with rfl | rfl | rfl <;> rfl
  · rcases (show i = 0 ∨ i = 1 ∨ i = 2 by omega) with rfl | rfl | rfl <;> rfl
  · rcases (show i = 0 ∨ i = 1 ∨ i = 2 ∨ i = 3 ∨ i = 4 ∨ i = 5 ∨ i = 6 ∨ i = 7 ∨ i = 8 ∨ i = 9 ∨ i = 10 ∨ i = 11 ∨ i = 12 ∨ i = 13 ∨ i = 14 ∨ i = 15 ∨ i = 16 by omega) with rfl | rfl | rfl | rfl | rfl | rfl | rfl | rfl | rfl | rfl | rfl | rfl | rfl | rfl | rfl | rfl | rfl <;> rfl
  · have : ga d0.2.2.2.2.1 k = ac0 := by
      rcases (show k = 0 ∨ k = 1 ∨ k = 2 ∨ k = 3 ∨ k = 4 ∨ k = 5 ∨ k = 6 ∨ k = 7 ∨ k = 8 ∨ k = 9 ∨ k = 10 ∨ k = 11 ∨ k = 12 ∨ k = 13 ∨ k = 14 ∨ k = 15 by omega) with rfl | rfl | rfl | rfl | rfl | rfl | rfl | rfl | rfl | rfl | rfl | rfl | rfl | rfl | rfl | rfl <;> rfl
    rw [this]
    exact ⟨rfl, fun q => by rcases q with q | q <;> exact absurd rfl q, rfl, rfl, rfl, rfl, rfl, rfl, rfl⟩
theorem mk_obj {p : Program} {l : Launch} {e : Env} {R : Room} {s : State} {m : MethodId} {args : Array Value} {below : List Frame} {meth : Method} {cd : Code} {H : Heap} {locs : List Loc} {cells slots : Nat} {Q : State → Prop} {cc : ByteArray} {nL pc : Nat} {ls : Array Slot} {A : Nat → Prop} {D : va_G} {c : Nat → ClassId}
    (hF : CallFix p m cd cc nL s args UW RL) (hK : zK D (gT c) s) (hX : zX A s s.heap) (hN : zNcs s) (hAO : zAO A s s.heap) (hA : ∀ q, s.heap.size ≤ q → A q) (hS : va_S A s.heap H locs)
    (e0 : decode cc pc = .ok (.new 8, 3)) (e3 : decode cc (pc + 3) = .ok (.dup, 1)) (e4 : decode cc (pc + 4) = .ok (.invokespecial 99, 3)) (hsz : ls.size = nL) (hR : 3 + 1 ≤ R.frames ∧ 8 + (2 + 11) + 60 ≤ R.locals) (hf : cells + 32 ≤ R.cells ∧ slots + 249 ≤ R.slots)
    (kk : ∀ (h : Nat → Nat) (κ : Nat → Nat → Int) (H : Heap) (locs : List Loc), CX p m cd cc nL s args h D c A → WS D c h A s sig0 κ (0, fun _ => 0, 0) d0 [] H locs → W p l e R s m args below meth cd H locs (cells + 32) (slots + 249) Q (F0 m (pc + 7) ls [.ref (h 0)])) :
    W p l e R s m args below meth cd H locs cells slots Q (F0 m pc ls []) := by
  have hz : zD A 0 (fun _ => 0) := ⟨fun i j h => absurd h (Nat.not_lt_zero _), fun k h => absurd h (Nat.not_lt_zero _)⟩
  have hP : zB 0 (fun _ => 0) D (fun _ => .inr (0, [])) H := fun k q hk => absurd (wN_lt hk).1 (Nat.not_lt_zero _)
  refine z_new hF hK hz hA hP hS (C := RX3) (T := TX3) (N := 14) (ci := 6) uin_X3 tyX3 tyX3_ok mp_40 mw_681 mw_86 rfl (fs := [.null, .int 0, .null, .null, .null, .null, .int 0, .null, .null, .int 0, .null, .null, .int 0, .int 0]) (by decide) (by omega) (by omega) e0 (fun q H hP hz hS => ?_)
  have hP : zB 1 (fun _ => q) D (gG c (fun _ => q) 1) H := zB_congr hP (fun k hk => by rw [show k = 0 by omega]; rfl) (fun k hk => by rw [show k = 0 by omega]; rfl)
  have hz : zD A 1 (fun _ => q) := zD_congr hz (fun k hk => by rw [show k = 0 by omega]; rfl)
  refine lv_dup hF.1 hF.2.1 e3 rfl ?_
  refine z_cvN (S := Nat → Nat) (n := 1) (h := fun _ => q) (n' := 32) (hh := fun h => h) (w := fun h => gC c h sig0 kap0 (0, fun _ => 0, 0)) (P := fun h => h 0 = q) (mc := 31) (ms := 235) (z_rI (na := 0) (b := q) (rm := { frames := 3, cells := 31, slots := 235, locals := 60 }) hF (z_preE zAO_st hK hX hAO hz hA hP hS) (c_X3_init l q D c _) mp_45 mw_686 mw_86 mw_79 rfl rfl rfl ⟨by decide, by decide, rfl⟩ hR (As := []) (rest := [.ref q]) rfl hsz rfl (Nat.le_of_ble_eq_true rfl) e4 ⟨by omega, by omega⟩) hz hA hS (fun h H locs hq hPn hzn hSn => ?_)
  have hq : h 0 = q := hq
  clear hP hz hS
  subst hq
  exact kk h kap0 H locs ⟨hF, hK, hX, hN, hzn, hA⟩ ⟨hPn, hSn, ES_0, WL_nil⟩
/-- two states as data are the same, by counting -/
def eI : List Int → List Int → Bool
  | [], [] => true
  | a :: l, b :: k => a == b && eI l k
  | _, _ => false
theorem eI_eq : ∀ l k : List Int, eI l k = true → l = k := by
  intro l
  induction l with
  | nil => intro k h; cases k with
    | nil => rfl
    | cons b k => exact absurd h (by simp [eI])
  | cons a l ih => intro k h; cases k with
    | nil => exact absurd h (by simp [eI])
    | cons b k =>
      simp only [eI, Bool.and_eq_true, beq_iff_eq] at h
      rw [h.1, ih k h.2]
def e9 (a b : Ac) : Bool := a.1 == b.1 && (a.2.1 == b.2.1 && (a.2.2.1 == b.2.2.1 && (a.2.2.2.1 == b.2.2.2.1 && (a.2.2.2.2.1 == b.2.2.2.2.1 && (a.2.2.2.2.2.1 == b.2.2.2.2.2.1 && (a.2.2.2.2.2.2.1 == b.2.2.2.2.2.2.1 && (a.2.2.2.2.2.2.2.1 == b.2.2.2.2.2.2.2.1 && a.2.2.2.2.2.2.2.2 == b.2.2.2.2.2.2.2.2)))))))
theorem e9_eq {a b : Ac} (h : e9 a b = true) : a = b := by
  obtain ⟨a1, a2, a3, a4, a5, a6, a7, a8, a9⟩ := a
  obtain ⟨b1, b2, b3, b4, b5, b6, b7, b8, b9⟩ := b
  simp only [e9, Bool.and_eq_true, beq_iff_eq] at h
  obtain ⟨rfl, rfl, rfl, rfl, rfl, rfl, rfl, rfl, rfl⟩ := h
  rfl
def eA : List Ac → List Ac → Bool
  | [], [] => true
  | a :: l, b :: k => e9 a b && eA l k
  | _, _ => false
theorem eA_eq : ∀ l k : List Ac, eA l k = true → l = k := by
  intro l
  induction l with
  | nil => intro k h; cases k with
    | nil => rfl
    | cons b k => exact absurd h (by simp [eA])
  | cons a l ih => intro k h; cases k with
    | nil => exact absurd h (by simp [eA])
    | cons b k =>
      simp only [eA, Bool.and_eq_true] at h
      rw [e9_eq h.1, ih k h.2]
def eT : List (Int × Int × Int) → List (Int × Int × Int) → Bool
  | [], [] => true
  | a :: l, b :: k => (a.1 == b.1 && (a.2.1 == b.2.1 && a.2.2 == b.2.2)) && eT l k
  | _, _ => false
theorem eT_eq : ∀ l k : List (Int × Int × Int), eT l k = true → l = k := by
  intro l
  induction l with
  | nil => intro k h; cases k with
    | nil => rfl
    | cons b k => exact absurd h (by simp [eT])
  | cons a l ih => intro k h; cases k with
    | nil => exact absurd h (by simp [eT])
    | cons b k =>
      obtain ⟨a1, a2, a3⟩ := a
      obtain ⟨b1, b2, b3⟩ := b
      simp only [eT, Bool.and_eq_true, beq_iff_eq] at h
      obtain ⟨⟨rfl, rfl, rfl⟩, h2⟩ := h
      rw [ih k h2]
def deq (a b : Da) : Bool := eI a.1 b.1 && (eI a.2.1 b.2.1 && (eI a.2.2.1 b.2.2.1 && (eI a.2.2.2.1 b.2.2.2.1 && (eA a.2.2.2.2.1 b.2.2.2.2.1 && (a.2.2.2.2.2.1 == b.2.2.2.2.2.1 && eT a.2.2.2.2.2.2 b.2.2.2.2.2.2)))))
theorem deq_eq {a b : Da} (h : deq a b = true) : a = b := by
  obtain ⟨a1, a2, a3, a4, a5, a6, a7⟩ := a
  obtain ⟨b1, b2, b3, b4, b5, b6, b7⟩ := b
  simp only [deq, Bool.and_eq_true, beq_iff_eq] at h
  obtain ⟨h1, h2, h3, h4, h5, rfl, h7⟩ := h
  rw [eI_eq _ _ h1, eI_eq _ _ h2, eI_eq _ _ h3, eI_eq _ _ h4, eA_eq _ _ h5, eT_eq _ _ h7]
