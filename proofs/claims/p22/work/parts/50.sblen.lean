/-! the word's length -/
theorem c_J5_length (l : Launch) (h : Nat → Nat) (D : va_G) (c : Nat → ClassId) (σ κ : Nat → Nat → Int) (ω : Nat × (Nat → Int32) × Int32) (hinj : ∀ i j, i < 32 → j < 32 → h i = h j → i = j) :
    zMi (S := Unit) l yJ5_length_8abf5 cJ5_length_8abf5 1 (some .int) 0 0 [.ref (h 6)] 32 h D (gT c) (gC c h σ κ ω) (fun _ => gC c h σ κ ω) (fun z _ => z = (ω.1 : Int)) := by
  refine zM_of (by decide) (Nat.le_of_ble_eq_true rfl) ?_
  intro p e s m below meth cd ls ⟨hF, hr, hlocks, hK⟩ hP hl
  have hz : zD (zA 32 h s.heap.size) 32 h := zD.self hinj s.heap.size
  have hA : ∀ q, s.heap.size ≤ q → zA 32 h s.heap.size q := zA_new
  generalize zA 32 h s.heap.size = A at hz hA ⊢
  have hS : va_S A s.heap s.heap [] := va_S.rf
  have hl : lv_has ls 1 [(0, .ref (h 6))] := hl
  refine lv_aload_n hF.1 hF.2.1 dJ5_length_8abf5_0 rfl (lv_at hl 0 rfl) ?_
  refine z_get hF hK hP (k := 6) (C := RJ4) (T := TJ4) (N := 4) (by omega) (rfl) rfl uin_J4 3 (by decide) mw_192 (v := .int (nI ω.1)) rfl dJ5_length_8abf5_1 ?_
  rw [iz_nI]
  exact z_reti (P := fun z _ => z = (ω.1 : Int)) (z := (ω.1 : Int)) (u := ()) (w := fun _ => gC c h σ κ ω) hF hr hlocks hP hS rfl rfl dJ5_length_8abf5_4
theorem c_J4_length (l : Launch) (h : Nat → Nat) (D : va_G) (c : Nat → ClassId) (σ κ : Nat → Nat → Int) (ω : Nat × (Nat → Int32) × Int32) (hinj : ∀ i j, i < 32 → j < 32 → h i = h j → i = j) :
    zMi (S := Unit) l yJ4_length_8abf5 cJ4_length_8abf5 1 (some .int) 1 20 [.ref (h 6)] 32 h D (gT c) (gC c h σ κ ω) (fun _ => gC c h σ κ ω) (fun z _ => z = (ω.1 : Int)) := by
  refine zM_of (by decide) (Nat.le_of_ble_eq_true rfl) ?_
  intro p e s m below meth cd ls ⟨hF, hr, hlocks, hK⟩ hP hl
  have hz : zD (zA 32 h s.heap.size) 32 h := zD.self hinj s.heap.size
  have hA : ∀ q, s.heap.size ≤ q → zA 32 h s.heap.size q := zA_new
  generalize zA 32 h s.heap.size = A at hz hA ⊢
  have hS : va_S A s.heap s.heap [] := va_S.rf
  have hl : lv_has ls 1 [(0, .ref (h 6))] := hl
  refine lv_aload_n hF.1 hF.2.1 dJ4_length_8abf5_0 rfl (lv_at hl 0 rfl) ?_
  refine z_ci (S := Unit) (w := fun _ => gC c h σ κ ω) (P := fun z _ => z = (ω.1 : Int)) (z_runSU (rm := { frames := 0, cells := 0, slots := 0, locals := 0 }) hF hK hP (c_J5_length l h D c σ κ ω hinj _) (gIn_SU mw_194 sm_len sm_sup mw_197 mw_51 mw_191) rfl rfl ⟨by decide, rfl⟩ ⟨Nat.le_of_ble_eq_true rfl, Nat.le_of_ble_eq_true rfl⟩ (k := 6) (T := TJ4) (N := 4) (by omega) rfl rfl rfl (As := []) (rest := []) rfl hl.1 rfl (Nat.le_of_ble_eq_true rfl) dJ4_length_8abf5_1 ⟨Nat.le_refl _, Nat.le_refl _⟩) hz hA hS (fun z_1 u_1 H locs hp hP hS => ?_)
  obtain rfl : z_1 = (ω.1 : Int) := hp
  exact z_reti (P := fun z _ => z = (ω.1 : Int)) (z := (ω.1 : Int)) (u := ()) (w := fun _ => gC c h σ κ ω) hF hr hlocks hP hS rfl rfl dJ4_length_8abf5_4
