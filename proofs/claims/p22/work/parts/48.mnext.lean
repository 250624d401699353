theorem bts {z : Int} {k : Nat} (h : k < 32) : ian (isr z k) 1 = 1 ↔ bt z k := by
  have hb : ∀ i, i < 32 → xb (iz (ian (isr z k) 1)) i = ((if k + i < 32 then xb (iz z) (k + i) else xb (iz z) 31) && decide (i = 0)) := fun i hi => by rw [xi_and, xi_shr z h hi, show iz 1 = (1 : Int32) from rfl, xb_1]
  rw [bt_xb]
  constructor
  · intro q
    have h0 := hb 0 (by decide)
    rw [q, show iz 1 = (1 : Int32) from rfl, xb_1] at h0
    simpa [h] using h0.symm
  · intro q
    have e : iz (ian (isr z k) 1) = 1 := xb_ext (fun i hi => by
      rw [hb i hi, xb_1]
      by_cases h0 : i = 0
      · subst h0; simp [q, h]
      · simp [h0])
    have e2 : (iz (isr z k) &&& iz 1 : Int32) = 1 := by unfold ian at e; rw [iz_ti] at e; exact e
    unfold ian
    rw [e2]; rfl
theorem bt_or_one {z : Int} {i k : Nat} (hi : i < 32) (hk : k < 32) : bt (ior z (ish 1 i)) k ↔ bt z k ∨ k = i := by
  rw [bt_xb, xi_or, xi_one hi hk, bt_xb]; simp
theorem bt_or_0 {z : Int} {k : Nat} : bt (ior z 0) k ↔ bt z k := by
  rw [bt_xb, xi_or, show iz 0 = (0 : Int32) from rfl, xb_0, bt_xb]; simp
theorem bt_0 {k : Nat} : ¬ bt 0 k := by
  rw [bt_xb, show iz 0 = (0 : Int32) from rfl, xb_0]; simp
def cl (st : Int) (n : Nat) : Int := ian st (ixo (ish 1 n) (-1))
theorem bt_cl {z : Int} {n k : Nat} (hn : n < 32) (hk : k < 32) : bt (cl z n) k ↔ bt z k ∧ k ≠ n := by
  unfold cl
  rw [bt_xb, xi_and, xi_xor, xi_one hn hk, show iz (-1) = (-1 : Int32) from rfl, xb_m1 k hk, bt_xb]
  simp
theorem ian_1 {x : Int} (h : 0 ≤ x ∧ x ≤ 1) : ian x 1 = x := by
  rcases (show x = 0 ∨ x = 1 by omega) with rfl | rfl <;> decide
theorem ian_0 {x : Int} (h : 0 ≤ x ∧ x ≤ 1) : ian x 0 = 0 := by
  rcases (show x = 0 ∨ x = 1 by omega) with rfl | rfl <;> decide
theorem zi_iandE {p : Program} {l : Launch} {e : Env} {R : Room} {s : State} {m : MethodId} {args : Array Value} {below : List Frame} {meth : Method} {c : Code} {H : Heap} {locs : List Loc} {cells slots : Nat} {Q : State → Prop} {cc : ByteArray} {pc : Nat} {ls : Array Slot} {rest : List Value} (hx : p.tables.exec = Jvm.exec) (hb : c.code = cc) {a b r : Int} (h : ian a b = r) (hd : decode cc pc = .ok (.iand, 1))
    (k : W p l e R s m args below meth c H locs cells slots Q (F0 m (pc + 1) ls (.int (iz r) :: rest))) : W p l e R s m args below meth c H locs cells slots Q (F0 m pc ls (.int (iz b) :: .int (iz a) :: rest)) := zi_iand hx hb hd (by rw [h]; exact k)
def can (τ : Nat → Nat → Int) (st la : Int) (k : Nat) : Prop := bt st k ∧ la < τ 8 k
def MNi (τ : Nat → Nat → Int) (st la : Int) (i : Nat) (b : Int) : Prop := (b = -1 ∧ ∀ k, k < i → ¬ can τ st la k) ∨ ∃ n : Nat, b = (n : Int) ∧ n < i ∧ can τ st la n ∧ (∀ k, k < i → can τ st la k → τ 8 n ≤ τ 8 k) ∧ ∀ k, k < n → can τ st la k → τ 8 n < τ 8 k
def MN (τ : Nat → Nat → Int) (st la b : Int) : Prop := MNi τ st la (τ 0 1).toNat b
theorem MNi_rg {τ : Nat → Nat → Int} {st la b : Int} {i : Nat} (h : MNi τ st la i b) : -1 ≤ b ∧ b < (i : Int) := by
  rcases h with h | ⟨n, h1, h2, _⟩ <;> omega
theorem MNi_s {τ : Nat → Nat → Int} {st la b new : Int} {i : Nat} (h : MNi τ st la i b) (hn : (¬ can τ st la i ∧ new = b) ∨ (can τ st la i ∧ b < 0 ∧ new = (i : Int)) ∨ (can τ st la i ∧ 0 ≤ b ∧ τ 8 i < τ 8 b.toNat ∧ new = (i : Int)) ∨ (can τ st la i ∧ 0 ≤ b ∧ τ 8 b.toNat ≤ τ 8 i ∧ new = b)) : MNi τ st la (i + 1) new := by
  have e : ∀ k, k < i + 1 → k < i ∨ k = i := fun k q => by omega
  rcases hn with ⟨c, rfl⟩ | ⟨c, hb, rfl⟩ | ⟨c, hb, hl, rfl⟩ | ⟨c, hb, hl, rfl⟩
  · rcases h with ⟨h1, h2⟩ | ⟨n, h1, h2, h3, h4, h5⟩
    · exact Or.inl ⟨h1, lt_s h2 c⟩
    · exact Or.inr ⟨n, h1, by omega, h3, lt_s h4 (fun q => absurd q c), h5⟩
  · rcases h with ⟨h1, h2⟩ | ⟨n, h1, h2, h3, h4, h5⟩
    · exact Or.inr ⟨i, rfl, by omega, c, lt_s (fun k q q2 => absurd q2 (h2 k q)) (fun _ => Int.le_refl _), fun k q q2 => absurd q2 (h2 k q)⟩
    · omega
  · rcases h with ⟨h1, h2⟩ | ⟨n, h1, h2, h3, h4, h5⟩
    · omega
    · have en : b.toNat = n := by omega
      rw [en] at hl
      exact Or.inr ⟨i, rfl, by omega, c, lt_s (fun k q q2 => by have := h4 k q q2; omega) (fun _ => Int.le_refl _), fun k q q2 => by have := h4 k q q2; omega⟩
  · rcases h with ⟨h1, h2⟩ | ⟨n, h1, h2, h3, h4, h5⟩
    · omega
    · have en : new.toNat = n := by omega
      rw [en] at hl
      exact Or.inr ⟨n, h1, by omega, h3, lt_s h4 (fun _ => hl), h5⟩
def hitM (τ : Nat → Nat → Int) (sg mi en : Int) (k : Nat) : Prop := τ 14 k ≠ 0 ∧ τ 7 k = sg ∧ τ 8 k < en ∧ mi < τ 8 k + τ 9 k
def stT (τ : Nat → Nat → Int) (sg mi en : Int) : Nat → Nat → Int := u2 (u2 (u2 (u2 τ 16 (τ 0 2).toNat sg) 17 (τ 0 2).toNat mi) 18 (τ 0 2).toNat en) 0 2 (τ 0 2 + 1)
/-- the acts that were called off, one after the other; z: the next one -/
def MRz (en : Int) : Nat → (Nat → Nat → Int) → Int → Int → Int → Int → (Nat → Nat → Int) → Int → Prop
  | 0 => fun τ _ _ lo z τ' b => z < 0 ∧ τ' = τ ∧ b = lo
  | N + 1 => fun τ st la lo z τ' b => (z < 0 ∧ τ' = τ ∧ b = lo) ∨ ∃ (n : Nat) (to z2 : Int), z = (n : Int) ∧ MF (u2 τ 14 n 1) n en to ∧
      ((0 ≤ to ∧ MN (u2 (u2 τ 14 n 1) 8 n to) (cl st n) (τ 8 n) z2 ∧ MRz en N (u2 (u2 τ 14 n 1) 8 n to) (cl st n) (τ 8 n) lo z2 τ' b) ∨
       (to < 0 ∧ MN (u2 (u2 τ 14 n 0) 8 n (τ 8 n)) (cl st n) (τ 8 n) z2 ∧ MRz en N (u2 (u2 τ 14 n 0) 8 n (τ 8 n)) (cl st n) (τ 8 n) (lo + 1) z2 τ' b))
def thX (τ : Nat → Nat → Int) (sg mi du : Int) : Int := if 0 ≤ sg ∧ sg ≤ 2 then (if (0 ≤ mi ∧ mi ≤ 999) ∧ (1 ≤ du ∧ du ≤ 200) then (if τ 0 2 = 5 then 3 else 0) else 2) else 1
def MStC (τ : Nat → Nat → Int) (sg mi en z : Int) (τ' : Nat → Nat → Int) : Prop := ∃ (st z0 : Int) (τ1 : Nat → Nat → Int), (∀ r, r ≠ 14 → τ1 r = stT τ sg mi en r) ∧ (∀ k, k < 17 → τ1 14 k = ie (hitM τ sg mi en k ∧ (k : Int) < τ 0 1) 0 (τ 14 k)) ∧ (∀ k, k < 32 → (bt st k ↔ ((k : Int) < τ 0 1 ∧ hitM τ sg mi en k))) ∧ MN τ1 st (-1) z0 ∧ ∃ N, MRz en N τ1 st (-1) 0 z0 τ' z
def MSt (τ : Nat → Nat → Int) (sg mi du z : Int) (τ' : Nat → Nat → Int) (t : Int) : Prop := t = thX τ sg mi du ∧ ((0 < thX τ sg mi du ∧ z = 0 ∧ τ' = τ) ∨ (thX τ sg mi du = 0 ∧ MStC τ sg mi (min (mi + du) 1000) z τ')) ∧ GI τ'
