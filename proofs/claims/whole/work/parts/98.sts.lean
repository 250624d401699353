/-! both sides at the start; the walk from the law's entry -/
theorem pt_s0 (m : Int) : pt sig0 m = 0 := by
  have h14 : ∀ k, sig0 14 k = 0 := fun k => rfl
  have hpl : ∀ k, ¬ pl sig0 k m := fun k q => q.1 (h14 k)
  have hl : ∀ p n, ldS sig0 m p n = 0 := fun p n => by
    induction n with
    | zero => rfl
    | succ n ih => simp only [ldS]; rw [ih, ic_f (fun q => hpl n q.1)]; rfl
  have hs : ∀ w hs n, nsS sig0 m w hs n = 0 := fun w hs n => by
    induction n with
    | zero => rfl
    | succ n ih => simp only [nsS]; rw [ih, ic_f (hpl n)]; rfl
  have hc0 : ∀ n, chS sig0 m n = 0 := fun n => by
    induction n with
    | zero => rfl
    | succ n ih => simp only [chS]; rw [ie_f (fun q => hpl n q.1), ih]
  have ht : ∀ n, tcS sig0 m n = 0 := fun n => by
    induction n with
    | zero => rfl
    | succ n ih => simp only [tcS]; rw [ie_f (fun q => hpl n q.1), ih]
  have n2 : ¬ bad2 sig0 m := by
    rintro ⟨p, hp, q⟩
    rw [hl] at q
    have := (stN_rg (σ := sig0) (mi := m) (sig0 0 0).toNat).1
    omega
  have n3 : ¬ bad3 sig0 m := by
    rintro (q | q)
    · exact q (ht 16)
    · rw [hc0] at q
      obtain ⟨b, _, _, ⟨_, _, q⟩, _⟩ := q
      unfold bt at q
      rw [show (iz 0).toBitVec = 0#32 from rfl] at q
      simp at q
  have n4 : ¬ bad4 sig0 m := by
    rintro ⟨hs9, hp, q⟩
    rw [hs, show sig0 3 hs9 = 60 from rfl] at q
    unfold ev at q
    split at q <;> omega
  unfold pt
  rw [ie_f n2, ie_f n3, ie_f n4]
theorem INV_0 : INV sig0 (0, fun _ => 0, 0) tau0 := by
  refine ⟨⟨fun r hr => ?_, fun _ _ => rfl, rfl, fun _ _ h => absurd rfl h, ⟨rfl, rfl, rfl⟩, fun s hs => ?_, fun _ _ _ => rfl⟩, GI_sig0, GI_tau0, ⟨fun _ _ h => absurd rfl h, fun m _ _ => pt_s0 m⟩, fun _ _ h => absurd rfl h, fun _ _ _ => rfl, fun _ _ => rfl, [], by decide, fun x hx => absurd hx List.not_mem_nil, rfl, fun j hj => absurd hj (Nat.not_lt_zero _), rfl, rfl⟩
  · funext i
    unfold sig0 tau0
    by_cases h3 : r = 3
    · rw [if_pos h3, if_pos h3]
    · rw [if_neg h3, if_neg h3, if_neg (by omega)]
  · have : (sig0 0 2) = 0 := rfl
    omega
section ZST
variable {p : Program} {l : Launch} {e : Env} {R : Room} {s : State} {m : MethodId} {args : Array Value} {below : List Frame} {meth : Method} {cd : Code} {H : Heap} {locs : List Loc} {cells slots : Nat} {Q : State → Prop}
variable {cc : ByteArray} {nL pc : Nat} {own : String} {ls : Array Slot} {rest : List Value} {A : Nat → Prop} {n n' n2 mc ms : Nat} {h h2 : Nat → Nat} {D : va_G} {tys : List (ClassId × FieldType)} {g g2 : Nat → va_E} {c : Nat → ClassId} {cL : ClassId} {st0 : List Value} {a : Array Value} {S : Type}
/-- a constructor's world grows, another one stays beside it -/
theorem z_cvNk {hh : S → Nat → Nat} {w : S → Nat → va_E} {P : S → Prop} (hr : va_Run p l e R s m args below meth cd H locs cells slots mc ms (F0 m pc ls st0) rest (va_Qv (fun u : S => P u) (fun u t => zB n' (hh u) D (w u) t.heap ∧ zD (zA n h H.size) n' (hh u)) (zA n h H.size) a) (zA n h H.size)) (hz : zD A n h) (hA : ∀ q, s.heap.size ≤ q → A q) (hS : va_S A s.heap H locs) (hP2 : zB n2 h2 D g2 H) (hap : ∀ i j, i < n → j < n2 → h i ≠ h2 j)
    (kk : ∀ (u : S) (H1 : Heap) (locs1 : List Loc), P u → zB n' (hh u) D (w u) H1 → zD A n' (hh u) → zB n2 h2 D g2 H1 → (∀ i j, i < n' → j < n2 → hh u i ≠ h2 j) → va_S A s.heap H1 locs1 → W p l e R s m args below meth cd H1 locs1 (cells + mc) (slots + ms) Q (F0 m (pc + 3) ls rest)) : W p l e R s m args below meth cd H locs cells slots Q (F0 m pc ls st0) := by
  refine va_callv hr hS (fun q _ hq => zA_sub hz hA hS q hq) (zA_sub hz hA hS) (fun u t H1 locs1 ht hvm hw hB hz1 hk1 hS1 => ?_)
  obtain ⟨hB, hD⟩ := hB
  rw [ht] at hB
  refine kk u H1 locs1 hw hB (hD.mono (zA_sub hz hA hS)) (zB_apart hP2 hap hk1) (fun i j hi hj q => ?_) hS1
  have hlt := (hP2 j _ (wN_at hj)).lt
  rcases hD.2 i hi with ⟨k, hk, e⟩ | hge
  · exact hap k j hk hj (by rw [e, q])
  · rw [q] at hge
    exact absurd hlt (Nat.not_lt.mpr hge)
/-- the law's row of one long -/
theorem z_newl (hF : CallFix p m cd cc nL s args UW own) (hK : zK D (gTL c cL) s) {h h' : Nat → Nat} {σ κ τ κm : Nat → Nat → Int} {ω : Nat × (Nat → Int32) × Int32} (hz : zD A 32 h) (hz' : zD A 17 h') (hap : ∀ i j, i < 32 → j < 17 → h i ≠ h' j) (hA : ∀ q, s.heap.size ≤ q → A q) (hP : zB 32 h D (gC c h σ κ ω) H) (hP' : zB 17 h' D (mC c h' τ κm) H) (hS : va_S A s.heap H locs) (hcells : cells + 1 ≤ R.cells) (hslots : slots + 1 ≤ R.slots) (hd : decode cc pc = .ok (.newarray .long, 2))
    (kk : ∀ (q : Nat) (H1 : Heap), zD A 33 (hx h 32 q) → zD A 17 h' → (∀ i j, i < 33 → j < 17 → hx h 32 q i ≠ h' j) → zB 33 (hx h 32 q) D (gL c cL (hx h 32 q) (σ, κ, ω, 0)) H1 → zB 17 h' D (mC c h' τ κm) H1 → va_S A s.heap H1 locs → W p l e R s m args below meth cd H1 locs (cells + 1) (slots + 1) Q (F0 m (pc + 2) ls (.ref q :: rest))) : W p l e R s m args below meth cd H locs cells slots Q (F0 m pc ls (.int (iz 1) :: rest)) := by
  refine va_newaK (atype := .long) hF.1 hF.2.1 (hF.2.2.2.2 _ mw_684) rfl hd (n := iz 1) (N := 1) rfl (by decide) rfl (by decide) hcells hslots rfl (fun H1 cA e1 z1 o1 hAr hNm => ?_)
  have ec : cA = cL := Option.some.inj (hNm.symm.trans ((hK.1.2 5 _ rfl).2 : s.vm.findClass _ = some cL))
  subst ec
  have l1 : ∀ k, k < 32 → h k < H.size := fun k hk => (hP k _ (wN_at hk)).lt
  have l2 : ∀ k, k < 17 → h' k < H.size := fun k hk => (hP' k _ (wN_at hk)).lt
  refine kk H.size H1 ⟨fun i j hi hj q => ?_, fun k hk => ?_⟩ hz' (fun i j hi hj q => ?_) ?_ (va_P.kept hP' (fun k q hk => o1 _ (hP' k q hk).lt)) ⟨Nat.le_trans hS.1 (by omega), fun x h1 h2 => (o1 x (Nat.lt_of_lt_of_le h1 hS.1)).trans (hS.2.1 x h1 h2), hS.2.2⟩
  · rcases Classical.em (i = 32) with ei | ei
    · rcases Classical.em (j = 32) with ej | ej
      · omega
      · have := l1 j (by omega)
        rw [ei, hx_at, hx_ne ej] at q
        omega
    · rcases Classical.em (j = 32) with ej | ej
      · have := l1 i (by omega)
        rw [ej, hx_at, hx_ne ei] at q
        omega
      · rw [hx_ne ei, hx_ne ej] at q
        exact hz.1 i j (by omega) (by omega) q
  · rcases Classical.em (k = 32) with ek | ek
    · rw [ek, hx_at]; exact hA _ hS.1
    · rw [hx_ne ek]; exact hz.2 k (by omega)
  · rcases Classical.em (i = 32) with ei | ei
    · have := l2 j hj
      rw [ei, hx_at] at q
      omega
    · rw [hx_ne ei] at q
      exact hap i j (by omega) hj q
  · have hP1 : zB 32 h D (gC c h σ κ ω) H1 := va_P.kept hP (fun k q hk => o1 _ (hP k q hk).lt)
    have hP2 : zB 32 (hx h 32 H.size) D (gC c h σ κ ω) H1 := zB_congr hP1 (fun k hk => hx_ne (by omega)) (fun _ _ => rfl)
    have hP3 : zB 32 (hx h 32 H.size) D (gC c (hx h 32 H.size) σ κ ω) H1 := zB_arrq hP2 (fun k hk => by
      match k with
      | 0 => exact Or.inl rfl
      | 1 => exact Or.inl rfl
      | 2 => exact Or.inl rfl
      | 3 => exact Or.inl rfl
      | 4 => exact Or.inl rfl
      | 5 => exact Or.inr ⟨c 2, 16, _, _, rfl, rfl, fun j hj => by
          show some (hx h 32 H.size (j + 11)) = some (h (j + 11))
          rw [hx_ne (by omega)]⟩
      | 6 => exact Or.inl rfl
      | 7 => exact Or.inr ⟨c 3, 5, _, _, rfl, rfl, fun j hj => by
          show some (hx h 32 H.size (j + 27)) = some (h (j + 27))
          rw [hx_ne (by omega)]⟩
      | 8 => exact Or.inl rfl
      | 9 => exact Or.inl rfl
      | 10 => exact Or.inl rfl
      | k' + 11 => exact Or.inl rfl)
    refine zB_33 hP3 ?_ (fun _ _ => rfl)
    intro k q hk
    obtain ⟨hl, rfl⟩ := wN_lt hk
    show H1[hx h 32 H.size 32]? = some (vp_cell cA (1, .inr (.inl fun j => if j = 0 then 0 else 0)))
    rw [hx_at, e1]
    unfold vp_cell
    simp only [ite_self]
    rfl
end ZST

set_option maxRecDepth 100000 in
set_option maxHeartbeats 4000000 in
theorem whole_start {p : Program} {e : Env} {s : State} {m : MethodId} {below : List Frame} {meth : Method} {c : Code} (l : Launch) (hflags : l.flags = flags0) {b L : Nat} {xs : Nat → Int32} (hL : L ≤ 4096) (C0 : lw_At p s m meth c b L xs) : W p l e room_1 s m #[Value.ref b] below meth c s.heap [] 0 0 (lw_Z below #[Value.ref b] s) (entryFrame m ([Value.ref b] : List Value).toArray 7) := by
  obtain ⟨hx0, hb, hr, hml, hown, hts, hXs, hbl, hlocks, hgv⟩ := id C0
  have hst : l.stackTraces = false := by unfold Launch.stackTraces; rw [hflags]; rfl
  have hn := flat_of_before _ hgv
  have hA0 : ∀ a : Nat, a < s.heap.size → ¬ (fun q : Nat => s.heap.size ≤ q) a := fun a h => Nat.not_le.mpr h
  have hF : CallFix p m c cL_law 7 s #[Value.ref b] UW RL := ⟨hx0, hb, hml, hown, UW_all hts⟩
  obtain ⟨D, cA, cL, hKL⟩ := zK_start hts
  have hX : zX (fun q : Nat => s.heap.size ≤ q) s s.heap := zX_start hts hn hA0
  have hN : zNcs s := zNc_start hn
  have hAO : zAO (fun q : Nat => s.heap.size ≤ q) s s.heap := ⟨va_AO.of (hts (.arrayOver (.object RX0)) (by decide +kernel)), va_AO.of (hts (.arrayOver (.object RX1)) (by decide +kernel))⟩
  have hK := zK_gT hKL
  have hA : ∀ q : Nat, s.heap.size ≤ q → (fun q : Nat => s.heap.size ≤ q) q := fun _ h => h
  rw [lg_entry_eq]
  have hl := lv_entry ([.ref b]) (n := 7) (Nat.le_of_ble_eq_true rfl)
  generalize (lg_sl ([.ref b]) ++ List.replicate (7 - (lg_sl ([.ref b])).length) Slot.unset).toArray = ls at hl ⊢
  have hl : lv_has ls 7 [(0, .ref b)] := hl
  have hlw : ∀ (h h' : Nat → Nat), zD (fun q : Nat => s.heap.size ≤ q) 33 h → zD (fun q : Nat => s.heap.size ≤ q) 17 h' → (∀ i j, i < 33 → j < 17 → h i ≠ h' j) → ∀ (u : SS) (τ κm : Nat → Nat → Int) (H : Heap) (locs : List Loc) (ls : Array Slot), INV u.1 u.2.2.1 τ → zB 33 h D (gL cA cL h u) H → zB 17 h' D (mC cA h' τ κm) H → va_S (fun q : Nat => s.heap.size ≤ q) s.heap H locs → lv_has ls 7 (LV b h h' 0) → W p l e room_1 s m #[Value.ref b] below meth c H locs 60 500 (lw_Z below #[Value.ref b] s) (F0 m 23 ls []) := fun h h' hz hz' hap u τ κm H locs ls hI hP hP' hS hl => lw_loop l hst hF hr hlocks hKL hX hN hz hz' hap hXs hbl hL (L + 1) 0 (by omega) (Nat.zero_le _) u τ κm H locs ls hI hP hP' hS hl
  generalize (fun q : Nat => s.heap.size ≤ q) = A at hA hX hAO hlw
  have hS : va_S A s.heap s.heap [] := va_S.rf
  generalize hH : s.heap = H at hS ⊢
  have hS : va_S A s.heap H [] := by rw [hH]; exact hS
  clear hH
  have hz : zD A 0 (fun _ => 0) := ⟨fun i j h => absurd h (Nat.not_lt_zero _), fun k h => absurd h (Nat.not_lt_zero _)⟩
  have hP : zB 0 (fun _ => 0) D (fun _ => .inr (0, [])) H := fun k q hk => absurd (wN_lt hk).1 (Nat.not_lt_zero _)
  refine z_new hF hK hz hA hP hS (C := RX3) (T := TX3) (N := 14) (ci := 6) uin_X3 tyX3 tyX3_ok mw_680 mw_681 mw_86 rfl (fs := [.null, .int 0, .null, .null, .null, .null, .int 0, .null, .null, .int 0, .null, .null, .int 0, .int 0]) (by decide) (Nat.le_of_ble_eq_true rfl) (Nat.le_of_ble_eq_true rfl) dL_law_0 (fun q H hP hz hS => ?_)
  have hP : zB 1 (fun _ => q) D (gG cA (fun _ => q) 1) H := zB_congr hP (fun k hk => by rw [show k = 0 by omega]; rfl) (fun k hk => by rw [show k = 0 by omega]; rfl)
  have hz : zD A 1 (fun _ => q) := zD_congr hz (fun k hk => by rw [show k = 0 by omega]; rfl)
  refine lv_dup hF.1 hF.2.1 dL_law_3 rfl ?_
  refine z_cvN (S := Nat → Nat) (n := 1) (h := fun _ => q) (n' := 32) (hh := fun h => h) (w := fun h => gC cA h sig0 kap0 (0, fun _ => 0, 0)) (P := fun h => h 0 = q) (mc := 31) (ms := 235) (z_rI (na := 0) (b := q) (rm := { frames := 3, cells := 31, slots := 235, locals := 60 }) hF (z_preE zAO_st hK hX hAO hz hA hP hS) (c_X3_init l q D cA _) mw_685 mw_686 mw_86 mw_79 rfl rfl rfl ⟨by decide, by decide, rfl⟩ ⟨Nat.le_of_ble_eq_true rfl, Nat.le_of_ble_eq_true rfl⟩ (As := []) (rest := [.ref q]) rfl hl.1 rfl (Nat.le_of_ble_eq_true rfl) dL_law_4 ⟨Nat.le_of_ble_eq_true rfl, Nat.le_of_ble_eq_true rfl⟩) hz hA hS (fun h H locs hq hPn hzn hSn => ?_)
  have hq : h 0 = q := hq
  clear hP hz hS
  subst hq
  have hP : zB 32 h D (gC cA h sig0 kap0 (0, fun _ => 0, 0)) H := hPn
  have hz : zD A 32 h := hzn
  have hS := hSn
  refine lv_astore_n (lv' := [(1, .ref (h 0)), (0, .ref b)]) hF.1 hF.2.1 dL_law_7 rfl hl (by decide) rfl (fun ls hl => ?_)
  refine z_new hF hK hz hA hP hS (C := RX4) (T := TX4) (N := 22) (ci := 7) uin_X4 tyX4 tyX4_ok mw_682 mw_683 mw_447 rfl (fs := [.int 0, .null, .null, .null, .null, .int 0, .null, .null, .null, .null, .null, .null, .null, .null, .int 0, .int 0, .int 0, .null, .null, .null, .null, .int 0]) (by decide) (Nat.le_of_ble_eq_true rfl) (Nat.le_of_ble_eq_true rfl) dL_law_8 (fun q H hP hz hS => ?_)
  have hap : ∀ i j, i < 1 → j < 32 → (fun _ : Nat => q) i ≠ h j := fun i j _ hj e => by
    have := hz.1 32 j (by decide) (by omega) (by rw [hx_at, hx_ne (by omega)]; exact e)
    omega
  have hP1 : zB 1 (fun _ => q) D (gM cA (fun _ => q) 1) H := by
    intro k q9 hk
    obtain ⟨hl, rfl⟩ := wN_lt hk
    have := hP 32 _ (wN_at (by decide))
    rw [hx_at, gx_at] at this
    rw [show k = 0 by omega]
    exact this
  have hP : zB 32 h D (gC cA h sig0 kap0 (0, fun _ => 0, 0)) H := zB_congr (zB_less hP (by decide)) (fun k hk => (hx_ne (by omega)).symm) (fun k hk => (gx_ne (by omega)).symm)
  have hz1 : zD A 1 (fun _ => q) := ⟨fun i j hi hj _ => by omega, fun k hk => by have := hz.2 32 (by decide); rw [hx_at] at this; exact this⟩
  have hz : zD A 32 h := zD_congr (hz.less (by decide)) (fun k hk => (hx_ne (by omega)).symm)
  refine lv_dup hF.1 hF.2.1 dL_law_11 rfl ?_
  refine z_cvNk (S := Nat → Nat) (n := 1) (h := fun _ => q) (n' := 17) (hh := fun h => h) (w := fun h => mC cA h tau0 kap0) (P := fun h => h 0 = q) (mc := 16) (ms := 197) (n2 := 32) (h2 := h) (g2 := gC cA h sig0 kap0 (0, fun _ => 0, 0)) (z_rI (na := 0) (b := q) (rm := { frames := 1, cells := 16, slots := 197, locals := 20 }) hF (z_preX hK hX hz1 hA hP1 hS) (c_X4_init l q D cA _) mw_687 mw_688 mw_447 mw_422 rfl rfl rfl ⟨by decide, by decide, rfl⟩ ⟨Nat.le_of_ble_eq_true rfl, Nat.le_of_ble_eq_true rfl⟩ (As := []) (rest := [.ref q]) rfl hl.1 rfl (Nat.le_of_ble_eq_true rfl) dL_law_12 ⟨Nat.le_of_ble_eq_true rfl, Nat.le_of_ble_eq_true rfl⟩) hz1 hA hS hP hap (fun h' H locs hq hP' hz' hPn hapn hSn => ?_)
  have hq : h' 0 = q := hq
  have hz32 : zD A 32 h := hz
  clear hP hz hS hap hP1 hz1
  subst hq
  have hz := hz32
  have hP := hPn
  have hap := hapn
  have hS := hSn
  refine lv_astore_n (lv' := [(2, .ref (h' 0)), (1, .ref (h 0)), (0, .ref b)]) hF.1 hF.2.1 dL_law_15 rfl hl (by decide) rfl (fun ls hl => ?_)
  refine zi_const hF.1 hF.2.1 dL_law_16 ?_
  refine z_newl hF hKL hz hz' (fun i j hi hj q => hap j i hj hi q.symm) hA hP hP' hS (Nat.le_of_ble_eq_true rfl) (Nat.le_of_ble_eq_true rfl) dL_law_17 (fun q H hz hz' hap hP hP' hS => ?_)
  refine W_top (b' := hx h 32 q 32) hx_at.symm ?_
  have hl : lv_has ls 7 [(2, .ref (h' 0)), (1, .ref (hx h 32 q 0)), (0, .ref b)] := hl
  refine lv_astore_n (lv' := [(3, .ref (hx h 32 q 32)), (2, .ref (h' 0)), (1, .ref (hx h 32 q 0)), (0, .ref b)]) hF.1 hF.2.1 dL_law_19 rfl hl (by decide) rfl (fun ls hl => ?_)
  refine zi_const hF.1 hF.2.1 dL_law_20 ?_
  refine lv_istore (lv' := [(4, .int (iz 0)), (3, .ref (hx h 32 q 32)), (2, .ref (h' 0)), (1, .ref (hx h 32 q 0)), (0, .ref b)]) hF.1 hF.2.1 dL_law_21 hl (by decide) rfl (fun ls hl => ?_)
  exact (hlw (hx h 32 q) h' hz hz' hap (sig0, kap0, (0, fun _ => 0, 0), 0) tau0 kap0 H _ ls INV_0 hP hP' hS hl).wide (by decide) (by decide)
