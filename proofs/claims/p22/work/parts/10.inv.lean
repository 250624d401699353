/-! what the class's numbers always are -/
def GR (r : Nat) (v : Int) : Prop := match r with
  | 1 => 0 ≤ v ∧ v ≤ 999
  | 2 => 0 ≤ v ∧ v ≤ 60
  | 3 => 10 ≤ v ∧ v ≤ 300
  | 4 => -10 ≤ v ∧ v ≤ 10
  | 7 => 0 ≤ v ∧ v ≤ 2
  | 8 => 0 ≤ v ∧ v ≤ 999
  | 9 => 0 ≤ v ∧ v ≤ 200
  | 10 => 0 ≤ v ∧ v ≤ 2
  | 11 => 0 ≤ v ∧ v ≤ 200
  | 12 => 0 ≤ v ∧ v ≤ 200
  | 13 => -1 ≤ v ∧ v ≤ 31
  | 14 => 0 ≤ v ∧ v ≤ 1
  | 15 => 0 ≤ v ∧ v ≤ 1
  | 16 => -1 ≤ v ∧ v ≤ 2
  | 17 => 0 ≤ v ∧ v ≤ 999
  | 18 => 0 ≤ v ∧ v ≤ 1000
  | _ => True
def GI (σ : Nat → Nat → Int) : Prop := (0 ≤ σ 0 0 ∧ σ 0 0 ≤ 6) ∧ (0 ≤ σ 0 1 ∧ σ 0 1 ≤ 16) ∧ (0 ≤ σ 0 2 ∧ σ 0 2 ≤ 5) ∧ ∀ r i, 1 ≤ r → GR r (σ r i)
section GI
variable {σ : Nat → Nat → Int} {v : Int}
theorem GI_00 (hG : GI σ) : 0 ≤ σ 0 0 ∧ σ 0 0 ≤ 6 := hG.1
theorem GI_01 (hG : GI σ) : 0 ≤ σ 0 1 ∧ σ 0 1 ≤ 16 := hG.2.1
theorem GI_02 (hG : GI σ) : 0 ≤ σ 0 2 ∧ σ 0 2 ≤ 5 := hG.2.2.1
theorem GI_1 (hG : GI σ) (i : Nat) : 0 ≤ σ 1 i ∧ σ 1 i ≤ 999 := hG.2.2.2 1 i (by decide)
theorem GI_2 (hG : GI σ) (i : Nat) : 0 ≤ σ 2 i ∧ σ 2 i ≤ 60 := hG.2.2.2 2 i (by decide)
theorem GI_3 (hG : GI σ) (i : Nat) : 10 ≤ σ 3 i ∧ σ 3 i ≤ 300 := hG.2.2.2 3 i (by decide)
theorem GI_4 (hG : GI σ) (i : Nat) : -10 ≤ σ 4 i ∧ σ 4 i ≤ 10 := hG.2.2.2 4 i (by decide)
theorem GI_7 (hG : GI σ) (i : Nat) : 0 ≤ σ 7 i ∧ σ 7 i ≤ 2 := hG.2.2.2 7 i (by decide)
theorem GI_8 (hG : GI σ) (i : Nat) : 0 ≤ σ 8 i ∧ σ 8 i ≤ 999 := hG.2.2.2 8 i (by decide)
theorem GI_9 (hG : GI σ) (i : Nat) : 0 ≤ σ 9 i ∧ σ 9 i ≤ 200 := hG.2.2.2 9 i (by decide)
theorem GI_10 (hG : GI σ) (i : Nat) : 0 ≤ σ 10 i ∧ σ 10 i ≤ 2 := hG.2.2.2 10 i (by decide)
theorem GI_11 (hG : GI σ) (i : Nat) : 0 ≤ σ 11 i ∧ σ 11 i ≤ 200 := hG.2.2.2 11 i (by decide)
theorem GI_12 (hG : GI σ) (i : Nat) : 0 ≤ σ 12 i ∧ σ 12 i ≤ 200 := hG.2.2.2 12 i (by decide)
theorem GI_13 (hG : GI σ) (i : Nat) : -1 ≤ σ 13 i ∧ σ 13 i ≤ 31 := hG.2.2.2 13 i (by decide)
theorem GI_14 (hG : GI σ) (i : Nat) : 0 ≤ σ 14 i ∧ σ 14 i ≤ 1 := hG.2.2.2 14 i (by decide)
theorem GI_15 (hG : GI σ) (i : Nat) : 0 ≤ σ 15 i ∧ σ 15 i ≤ 1 := hG.2.2.2 15 i (by decide)
theorem GI_16 (hG : GI σ) (i : Nat) : -1 ≤ σ 16 i ∧ σ 16 i ≤ 2 := hG.2.2.2 16 i (by decide)
theorem GI_17 (hG : GI σ) (i : Nat) : 0 ≤ σ 17 i ∧ σ 17 i ≤ 999 := hG.2.2.2 17 i (by decide)
theorem GI_18 (hG : GI σ) (i : Nat) : 0 ≤ σ 18 i ∧ σ 18 i ≤ 1000 := hG.2.2.2 18 i (by decide)
theorem GI_up {r k : Nat} (hG : GI σ) (h1 : 1 ≤ r) (hv : GR r v) : GI (u2 σ r k v) := by
  have e : u2 σ r k v 0 = σ 0 := u2_row (by omega)
  refine ⟨by rw [e]; exact hG.1, by rw [e]; exact hG.2.1, by rw [e]; exact hG.2.2.1, fun r' i h => ?_⟩
  by_cases hr : r' = r
  · subst hr
    by_cases hi : i = k
    · subst hi; rw [u2_at]; exact hv
    · rw [u2_ne hi]; exact hG.2.2.2 r' i h
  · rw [u2_row hr]; exact hG.2.2.2 r' i h
theorem GI_u1 {k : Nat} (hG : GI σ) (hv : 0 ≤ v ∧ v ≤ 999) : GI (u2 σ 1 k v) := GI_up hG (by decide) hv
theorem GI_u2 {k : Nat} (hG : GI σ) (hv : 0 ≤ v ∧ v ≤ 60) : GI (u2 σ 2 k v) := GI_up hG (by decide) hv
theorem GI_u3 {k : Nat} (hG : GI σ) (hv : 10 ≤ v ∧ v ≤ 300) : GI (u2 σ 3 k v) := GI_up hG (by decide) hv
theorem GI_u4 {k : Nat} (hG : GI σ) (hv : -10 ≤ v ∧ v ≤ 10) : GI (u2 σ 4 k v) := GI_up hG (by decide) hv
theorem GI_u7 {k : Nat} (hG : GI σ) (hv : 0 ≤ v ∧ v ≤ 2) : GI (u2 σ 7 k v) := GI_up hG (by decide) hv
theorem GI_u8 {k : Nat} (hG : GI σ) (hv : 0 ≤ v ∧ v ≤ 999) : GI (u2 σ 8 k v) := GI_up hG (by decide) hv
theorem GI_u9 {k : Nat} (hG : GI σ) (hv : 0 ≤ v ∧ v ≤ 200) : GI (u2 σ 9 k v) := GI_up hG (by decide) hv
theorem GI_u10 {k : Nat} (hG : GI σ) (hv : 0 ≤ v ∧ v ≤ 2) : GI (u2 σ 10 k v) := GI_up hG (by decide) hv
theorem GI_u11 {k : Nat} (hG : GI σ) (hv : 0 ≤ v ∧ v ≤ 200) : GI (u2 σ 11 k v) := GI_up hG (by decide) hv
theorem GI_u12 {k : Nat} (hG : GI σ) (hv : 0 ≤ v ∧ v ≤ 200) : GI (u2 σ 12 k v) := GI_up hG (by decide) hv
theorem GI_u13 {k : Nat} (hG : GI σ) (hv : -1 ≤ v ∧ v ≤ 31) : GI (u2 σ 13 k v) := GI_up hG (by decide) hv
theorem GI_u14 {k : Nat} (hG : GI σ) (hv : 0 ≤ v ∧ v ≤ 1) : GI (u2 σ 14 k v) := GI_up hG (by decide) hv
theorem GI_u15 {k : Nat} (hG : GI σ) (hv : 0 ≤ v ∧ v ≤ 1) : GI (u2 σ 15 k v) := GI_up hG (by decide) hv
theorem GI_u16 {k : Nat} (hG : GI σ) (hv : -1 ≤ v ∧ v ≤ 2) : GI (u2 σ 16 k v) := GI_up hG (by decide) hv
theorem GI_u17 {k : Nat} (hG : GI σ) (hv : 0 ≤ v ∧ v ≤ 999) : GI (u2 σ 17 k v) := GI_up hG (by decide) hv
theorem GI_u18 {k : Nat} (hG : GI σ) (hv : 0 ≤ v ∧ v ≤ 1000) : GI (u2 σ 18 k v) := GI_up hG (by decide) hv
theorem GI_u00 (hG : GI σ) (hv : 0 ≤ v ∧ v ≤ 6) : GI (u2 σ 0 0 v) := by
  have e : ∀ r', 1 ≤ r' → u2 σ 0 0 v r' = σ r' := fun r' h => u2_row (by omega)
  exact ⟨by rw [u2_at]; exact hv, by rw [u2_ne (by decide)]; exact hG.2.1, by rw [u2_ne (by decide)]; exact hG.2.2.1, fun r i h => by rw [e r h]; exact hG.2.2.2 r i h⟩
theorem GI_u01 (hG : GI σ) (hv : 0 ≤ v ∧ v ≤ 16) : GI (u2 σ 0 1 v) := by
  have e : ∀ r', 1 ≤ r' → u2 σ 0 1 v r' = σ r' := fun r' h => u2_row (by omega)
  exact ⟨by rw [u2_ne (by decide)]; exact hG.1, by rw [u2_at]; exact hv, by rw [u2_ne (by decide)]; exact hG.2.2.1, fun r i h => by rw [e r h]; exact hG.2.2.2 r i h⟩
theorem GI_u02 (hG : GI σ) (hv : 0 ≤ v ∧ v ≤ 5) : GI (u2 σ 0 2 v) := by
  have e : ∀ r', 1 ≤ r' → u2 σ 0 2 v r' = σ r' := fun r' h => u2_row (by omega)
  exact ⟨by rw [u2_ne (by decide)]; exact hG.1, by rw [u2_ne (by decide)]; exact hG.2.1, by rw [u2_at]; exact hv, fun r i h => by rw [e r h]; exact hG.2.2.2 r i h⟩
end GI
section ZR2
variable {p : Program} {l : Launch} {e : Env} {R : Room} {s : State} {m : MethodId} {args : Array Value} {below : List Frame} {meth : Method} {c : Code} {H : Heap} {locs : List Loc} {cells slots : Nat} {Q : State → Prop}
variable {cc : ByteArray} {pc : Nat} {ls : Array Slot} {rest : List Value}
theorem zi_ifb_eq (hx : p.tables.exec = Jvm.exec) (hb : c.code = cc) {P : Prop} {off : Int} {tgt : Nat} (hd : decode cc pc = .ok (.ifCond .eq off, 3)) (ht : (pc : Int) + off = (tgt : Int))
    (kt : ¬ P → W p l e R s m args below meth c H locs cells slots Q (F0 m tgt ls rest)) (kf : P → W p l e R s m args below meth c H locs cells slots Q (F0 m (pc + 3) ls rest)) : W p l e R s m args below meth c H locs cells slots Q (F0 m pc ls (.int (iz (b2i P)) :: rest)) :=
  zi_if_eq hx hb hd ht (by have := @b2i_rg P; omega) (fun h => kt (b2i_0.mp h)) (fun h => kf (b2i_1.mp h))
theorem zi_ifb_ne (hx : p.tables.exec = Jvm.exec) (hb : c.code = cc) {P : Prop} {off : Int} {tgt : Nat} (hd : decode cc pc = .ok (.ifCond .ne off, 3)) (ht : (pc : Int) + off = (tgt : Int))
    (kt : P → W p l e R s m args below meth c H locs cells slots Q (F0 m tgt ls rest)) (kf : ¬ P → W p l e R s m args below meth c H locs cells slots Q (F0 m (pc + 3) ls rest)) : W p l e R s m args below meth c H locs cells slots Q (F0 m pc ls (.int (iz (b2i P)) :: rest)) :=
  zi_if_ne hx hb hd ht (by have := @b2i_rg P; omega) (fun h => kt (b2i_1.mp h)) (fun h => kf (b2i_0.mp h))
theorem iz_div {a b : Int} (ha : 0 ≤ a ∧ a ≤ 2147483647) (hb : 0 < b ∧ b ≤ 2147483647) : iz a / iz b = iz (a / b) := by
  unfold iz
  rw [← Int.tdiv_eq_ediv_of_nonneg ha.1]
  exact (Int32.ofInt_tdiv (by show (-2147483648 : Int) ≤ a; omega) (by show a ≤ (2147483647 : Int); omega) (by show (-2147483648 : Int) ≤ b; omega) (by show b ≤ (2147483647 : Int); omega)).symm
theorem zi_div (hx : p.tables.exec = Jvm.exec) (hb : c.code = cc) {a b : Int} (hd : decode cc pc = .ok (.idiv, 1)) (ha : 0 ≤ a ∧ a ≤ 2147483647) (hb0 : 0 < b ∧ b ≤ 2147483647)
    (k : W p l e R s m args below meth c H locs cells slots Q (F0 m (pc + 1) ls (.int (iz (a / b)) :: rest))) : W p l e R s m args below meth c H locs cells slots Q (F0 m pc ls (.int (iz b) :: .int (iz a) :: rest)) :=
  lv_idiv hx hb hd (fun q => by have := (iz_eq (by omega) iz_r0).mp q; omega) (by rw [iz_div ha hb0]; exact k)
theorem zi_rem (hx : p.tables.exec = Jvm.exec) (hb : c.code = cc) {a b : Int} (hd : decode cc pc = .ok (.irem, 1)) (ha : 0 ≤ a ∧ a ≤ 2147483647) (hb0 : 0 < b ∧ b ≤ 2147483647)
    (k : W p l e R s m args below meth c H locs cells slots Q (F0 m (pc + 1) ls (.int (iz (a % b)) :: rest))) : W p l e R s m args below meth c H locs cells slots Q (F0 m pc ls (.int (iz b) :: .int (iz a) :: rest)) :=
  lv_irem hx hb hd (fun q => by have := (iz_eq (by omega) iz_r0).mp q; omega) (by rw [iz_div ha hb0, iz_mul, iz_sub, show a - a / b * b = a % b by rw [Int.emod_def, Int.mul_comm]]; exact k)
end ZR2
