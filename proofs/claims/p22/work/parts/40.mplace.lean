theorem ian_b {P P' : Prop} : ian (b2i P) (b2i P') = b2i (P ∧ P') := by
  rcases Classical.em P with h | h <;> rcases Classical.em P' with h2 | h2
  · rw [b2i_t h, b2i_t h2, b2i_t ⟨h, h2⟩]; decide
  · rw [b2i_t h, b2i_f h2, b2i_f (fun q => h2 q.2)]; decide
  · rw [b2i_f h, b2i_t h2, b2i_f (fun q => h q.1)]; decide
  · rw [b2i_f h, b2i_f h2, b2i_f (fun q => h q.1)]; decide
theorem zi_andb {p : Program} {l : Launch} {e : Env} {R : Room} {s : State} {m : MethodId} {args : Array Value} {below : List Frame} {meth : Method} {c : Code} {H : Heap} {locs : List Loc} {cells slots : Nat} {Q : State → Prop} {cc : ByteArray} {pc : Nat} {ls : Array Slot} {rest : List Value} (hx : p.tables.exec = Jvm.exec) (hb : c.code = cc) {P P' : Prop} (hd : decode cc pc = .ok (.iand, 1))
    (k : W p l e R s m args below meth c H locs cells slots Q (F0 m (pc + 1) ls (.int (iz (b2i (P ∧ P'))) :: rest))) : W p l e R s m args below meth c H locs cells slots Q (F0 m pc ls (.int (iz (b2i P')) :: .int (iz (b2i P)) :: rest)) := zi_iand hx hb hd (by rw [ian_b]; exact k)
theorem all_s {i : Nat} {p : Nat → Prop} : ((∀ a, a < i → p a) ∧ p i) ↔ ∀ a, a < i + 1 → p a := ⟨fun h => lt_s h.1 h.2, fun h => ⟨fun a q => h a (by omega), h i (by omega)⟩⟩
theorem and_all_s {X : Prop} {i : Nat} {p : Nat → Prop} : ((X ∧ ∀ a, a < i → p a) ∧ p i) ↔ (X ∧ ∀ a, a < i + 1 → p a) := ⟨fun h => ⟨h.1.1, lt_s h.1.2 h.2⟩, fun h => ⟨⟨h.1, fun a q => h.2 a (by omega)⟩, h.2 i (by omega)⟩⟩
theorem all_0 {p : Nat → Prop} : True ↔ ∀ a, a < 0 → p a := ⟨fun _ => lt_0, fun _ => trivial⟩
def mA (τ : Nat → Nat → Int) (k : Nat) : Prop := τ 14 k = 0 ∨ τ 8 k + τ 9 k ≤ 1000
def mN (τ : Nat → Nat → Int) (k m : Nat) : Prop := m ≠ k ∧ τ 14 k ≠ 0 ∧ τ 14 m ≠ 0 ∧ τ 7 m = τ 7 k ∧ τ 8 k ≤ τ 8 m
def mB (τ : Nat → Nat → Int) (k m : Nat) : Prop := ¬ mN τ k m ∨ τ 8 k + τ 9 k + τ 2 (τ 7 k).toNat ≤ τ 8 m
def mCs (τ : Nat → Nat → Int) (k w : Nat) : Prop := τ 14 k = 0 ∨ τ 16 w ≠ τ 7 k ∨ τ 18 w ≤ τ 8 k ∨ τ 8 k + τ 9 k ≤ τ 17 w
def mP (τ : Nat → Nat → Int) (k : Nat) : Prop := (mA τ k ∧ ∀ m, m < 17 → mB τ k m) ∧ ∀ w, w < (τ 0 2).toNat → mCs τ k w
def placed (τ : Nat → Nat → Int) : Prop := ∀ k, k < 17 → mP τ k
def fed (τ : Nat → Nat → Int) (mi : Int) : Prop := ∀ p, p < 3 → ldS τ mi p 17 ≤ 100 * stN τ mi (τ 0 0).toNat
def quiet (τ : Nat → Nat → Int) (mi : Int) : Prop := ∀ hs, hs < 3 → nsS τ mi (wd τ mi) hs 17 ≤ τ 3 hs - ev mi
