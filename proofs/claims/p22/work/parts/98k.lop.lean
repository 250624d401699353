/-! the law's own loop -/
set_option maxHeartbeats 1000000 in
/-- how often it was planned; what there is not is refused; the next -/
theorem lw_tail (l : Launch) (hst : l.stackTraces = false) {p : Program} {e : Env} {s : State} {m : MethodId} {below : List Frame} {meth : Method} {cd : Code} {A : Nat → Prop} {h : Nat → Nat} {D : va_G} {c : Nat → ClassId} {b : Nat} {Q : State → Prop} (hC : CX p m cd cL_law 7 s #[Value.ref b] h D c A) {k : Nat} (hk : k < 16) {σ κ : Nat → Nat → Int} {ω : Nat × (Nat → Int32) × Int32} {H : Heap} {locs : List Loc} {ls : Array Slot} {cells slots : Nat} (hI : INS σ) (hW : WL ω []) (hn : σ 0 1 ≤ ((k + 1 : Nat) : Int)) (hP : zB 32 h D (gC c h σ κ ω) H) (hS : va_S A s.heap H locs) (hl : lv_has ls 7 [(3, .int (iz ((k : Int) : Int))), (2, .int (iz (σ 0 1))), (1, .ref (h 0)), (0, .ref b)]) (hf : cells + 900 ≤ 679788 ∧ slots + 6 * 900 ≤ 7062465)
    (kk : ∀ (σ κ : Nat → Nat → Int) (H : Heap) (locs : List Loc) (ls : Array Slot), INS σ → σ 0 1 ≤ ((k + 1 : Nat) : Int) → zB 32 h D (gC c h σ κ ω) H → va_S A s.heap H locs → lv_has ls 7 [(3, .int (iz (((k + 1 : Nat) : Int) : Int))), (2, .int (iz (σ 0 1))), (1, .ref (h 0)), (0, .ref b)] → W p l e room_1 s m #[Value.ref b] below meth cd H locs (cells + 900) (slots + 6 * 900) Q (F0 m 43 ls [])) :
    W p l e room_1 s m #[Value.ref b] below meth cd H locs cells slots Q (F0 m 222 ls []) := by
  have g := GI_01 hI.1
  have k244 : ∀ (κ : Nat → Nat → Int) (H : Heap) (locs : List Loc) (ls : Array Slot), zB 32 h D (gC c h σ κ ω) H → va_S A s.heap H locs → lv_has ls 7 [(3, .int (iz ((k : Int) : Int))), (2, .int (iz (σ 0 1))), (1, .ref (h 0)), (0, .ref b)] → W p l e room_1 s m #[Value.ref b] below meth cd H locs (cells + 900) (slots + 6 * 900) Q (F0 m 244 ls []) := fun κ H locs ls hP hS hl => by
    refine lv_iinc (v := iz ((k + 1 : Nat) : Int)) (lv' := [(3, .int (iz (((k + 1 : Nat) : Int) : Int))), (2, .int (iz (σ 0 1))), (1, .ref (h 0)), (0, .ref b)]) hC.1.1 hC.1.2.1 dL_law_244 hl (k := 0) rfl ((iz_add _ _).trans (congrArg iz (by omega))) (by decide) rfl (fun ls hl => ?_)
    refine lv_goto (tgt := 43) hC.1.1 hC.1.2.1 dL_law_247 (by decide) ?_
    exact kk σ κ H locs ls hI hn hP hS hl
  refine lv_iload_n hC.1.1 hC.1.2.1 dL_law_222 rfl (lv_at hl 1 rfl) ?_
  refine zi_bipush hC.1.1 hC.1.2.1 dL_law_223 rfl ?_
  refine zi_icmp_ge (tgt := 244) hC.1.1 hC.1.2.1 dL_law_225 (by decide) (by omega) (by omega) (fun _ => ?_) (fun hn16 => ?_)
  · exact (k244 κ H locs ls hP hS hl).wide (by omega) (by omega)
  refine lv_iload_n hC.1.1 hC.1.2.1 dL_law_228 rfl (lv_at hl 0 rfl) ?_
  refine zi_const hC.1.1 hC.1.2.1 dL_law_229 ?_
  refine zi_rem hC.1.1 hC.1.2.1 dL_law_230 (by omega) (by omega) ?_
  refine zi_if_ne (tgt := 244) hC.1.1 hC.1.2.1 dL_law_231 (by decide) (by omega) (fun _ => ?_) (fun _ => ?_)
  · exact (k244 κ H locs ls hP hS hl).wide (by omega) (by omega)
  refine lv_aload_n hC.1.1 hC.1.2.1 dL_law_234 rfl (lv_at hl 2 rfl) ?_
  refine lv_iload_n hC.1.1 hC.1.2.1 dL_law_235 rfl (lv_at hl 1 rfl) ?_
  refine g_refuses hst hC hP hS hI.1 (ac := σ 0 1) rfl hI.2.2.1 hI.2.2.2.2 (WL_6 hW) (WL_by hW) dL_law_236 hl.1 (Nat.le_of_ble_eq_true rfl) ⟨(Nat.le_of_ble_eq_true rfl), (Nat.le_of_ble_eq_true rfl)⟩ hf (fun κ H locs hP hS => ?_)
  refine zi_if_ne (tgt := 244) hC.1.1 hC.1.2.1 dL_law_239 (by decide) (by decide) (fun _ => ?_) (fun q => absurd q (by decide))
  exact k244 κ H locs ls hP hS hl
set_option maxHeartbeats 4000000 in
/-- one act, asked and planned -/
theorem lw_step (l : Launch) (hst : l.stackTraces = false) {p : Program} {e : Env} {s : State} {m : MethodId} {below : List Frame} {meth : Method} {cd : Code} {A : Nat → Prop} {h : Nat → Nat} {D : va_G} {c : Nat → ClassId} {b : Nat} {Q : State → Prop} (hC : CX p m cd cL_law 7 s #[Value.ref b] h D c A) {k : Nat} (hk : k < 16) {x : Int} (hx : 0 ≤ x ∧ x ≤ 16777215) {σ κ : Nat → Nat → Int} {ω : Nat × (Nat → Int32) × Int32} {H : Heap} {locs : List Loc} {ls : Array Slot} {cells slots : Nat} (hI : INS σ) (hW : WL ω []) (hn : σ 0 1 ≤ (k : Int)) (hP : zB 32 h D (gC c h σ κ ω) H) (hS : va_S A s.heap H locs) (hl : lv_has ls 7 [(4, .int (iz x)), (3, .int (iz (k : Int))), (2, .int (iz (σ 0 1))), (1, .ref (h 0)), (0, .ref b)]) (hf : cells + 917 ≤ 679788 ∧ slots + 6 * 917 ≤ 7062465)
    (kk : ∀ (σ κ : Nat → Nat → Int) (H : Heap) (locs : List Loc) (ls : Array Slot), INS σ → σ 0 1 ≤ ((k + 1 : Nat) : Int) → zB 32 h D (gC c h σ κ ω) H → va_S A s.heap H locs → lv_has ls 7 [(3, .int (iz (((k + 1 : Nat) : Int) : Int))), (2, .int (iz (σ 0 1))), (1, .ref (h 0)), (0, .ref b)] → W p l e room_1 s m #[Value.ref b] below meth cd H locs (cells + 917) (slots + 6 * 917) Q (F0 m 43 ls [])) :
    W p l e room_1 s m #[Value.ref b] below meth cd H locs cells slots Q (F0 m 72 ls []) := by
  have g := GI_01 hI.1
  have h0 : thL σ (x % 3) (x % 1000) (1 + x % 200) (x / 3 % 3) (x % 90) (x % 80) (x % 33 - 1) = 0 := thL_x hx (by omega)
  refine lv_aload_n hC.1.1 hC.1.2.1 dL_law_72 rfl (lv_at hl 3 rfl) ?_
  refine lv_iload hC.1.1 hC.1.2.1 dL_law_73 (lv_at hl 0 rfl) ?_
  refine zi_const hC.1.1 hC.1.2.1 dL_law_75 ?_
  refine zi_rem hC.1.1 hC.1.2.1 dL_law_76 (by omega) (by omega) ?_
  refine lv_iload hC.1.1 hC.1.2.1 dL_law_77 (lv_at hl 0 rfl) ?_
  refine zi_sipush hC.1.1 hC.1.2.1 dL_law_79 rfl ?_
  refine zi_rem hC.1.1 hC.1.2.1 dL_law_82 (by omega) (by omega) ?_
  refine zi_const hC.1.1 hC.1.2.1 dL_law_83 ?_
  refine lv_iload hC.1.1 hC.1.2.1 dL_law_84 (lv_at hl 0 rfl) ?_
  refine zi_sipush hC.1.1 hC.1.2.1 dL_law_86 rfl ?_
  refine zi_rem hC.1.1 hC.1.2.1 dL_law_89 (by omega) (by omega) ?_
  refine zi_add hC.1.1 hC.1.2.1 dL_law_90 ?_
  refine lv_iload hC.1.1 hC.1.2.1 dL_law_91 (lv_at hl 0 rfl) ?_
  refine zi_const hC.1.1 hC.1.2.1 dL_law_93 ?_
  refine zi_div hC.1.1 hC.1.2.1 dL_law_94 (by omega) (by omega) ?_
  refine zi_const hC.1.1 hC.1.2.1 dL_law_95 ?_
  refine zi_rem hC.1.1 hC.1.2.1 dL_law_96 (by omega) (by omega) ?_
  refine lv_iload hC.1.1 hC.1.2.1 dL_law_97 (lv_at hl 0 rfl) ?_
  refine zi_bipush hC.1.1 hC.1.2.1 dL_law_99 rfl ?_
  refine zi_rem hC.1.1 hC.1.2.1 dL_law_101 (by omega) (by omega) ?_
  refine lv_iload hC.1.1 hC.1.2.1 dL_law_102 (lv_at hl 0 rfl) ?_
  refine zi_bipush hC.1.1 hC.1.2.1 dL_law_104 rfl ?_
  refine zi_rem hC.1.1 hC.1.2.1 dL_law_106 (by omega) (by omega) ?_
  refine lv_iload hC.1.1 hC.1.2.1 dL_law_107 (lv_at hl 0 rfl) ?_
  refine zi_bipush hC.1.1 hC.1.2.1 dL_law_109 rfl ?_
  refine zi_rem hC.1.1 hC.1.2.1 dL_law_111 (by omega) (by omega) ?_
  refine zi_const hC.1.1 hC.1.2.1 dL_law_112 ?_
  refine zi_sub hC.1.1 hC.1.2.1 dL_law_113 ?_
  refine g_reason hst hC hP hS hI.1 (by omega) (by omega) (by omega) (by omega) (by omega) (by omega) (by omega) h0 dL_law_114 hl.1 (Nat.le_of_ble_eq_true rfl) ⟨(Nat.le_of_ble_eq_true rfl), (Nat.le_of_ble_eq_true rfl)⟩ ⟨by show _ ≤ 679788; omega, by show _ ≤ 7062465; omega⟩ (fun z1 σ1 κ H locs hz1 hs1 hP hS => ?_)
  have hI1 : INS σ1 := by rw [hs1]; exact s_off hI h0
  have e01 : σ1 0 1 = σ 0 1 := by rw [hs1, u2_row (by decide), lay_0]
  have el : lay σ1 (σ1 0 1).toNat (x % 3) (x % 1000) (1 + x % 200) (x / 3 % 3) (x % 90) (x % 80) (x % 33 - 1) = lay σ (σ 0 1).toNat (x % 3) (x % 1000) (1 + x % 200) (x / 3 % 3) (x % 90) (x % 80) (x % 33 - 1) := by rw [e01, hs1, lay_up]
  have hb1 : 0 ≤ z1 ∧ z1 ≤ 4 := by rw [hz1]; exact bby_rg
  refine lv_istore (lv' := [(5, .int (iz z1)), (4, .int (iz x)), (3, .int (iz (k : Int))), (2, .int (iz (σ 0 1))), (1, .ref (h 0)), (0, .ref b)]) hC.1.1 hC.1.2.1 dL_law_117 hl (by decide) rfl (fun ls hl => ?_)
  refine lv_aload_n hC.1.1 hC.1.2.1 dL_law_119 rfl (lv_at hl 4 rfl) ?_
  refine lv_iload hC.1.1 hC.1.2.1 dL_law_120 (lv_at hl 1 rfl) ?_
  refine zi_const hC.1.1 hC.1.2.1 dL_law_122 ?_
  refine zi_rem hC.1.1 hC.1.2.1 dL_law_123 (by omega) (by omega) ?_
  refine lv_iload hC.1.1 hC.1.2.1 dL_law_124 (lv_at hl 1 rfl) ?_
  refine zi_sipush hC.1.1 hC.1.2.1 dL_law_126 rfl ?_
  refine zi_rem hC.1.1 hC.1.2.1 dL_law_129 (by omega) (by omega) ?_
  refine zi_const hC.1.1 hC.1.2.1 dL_law_130 ?_
  refine lv_iload hC.1.1 hC.1.2.1 dL_law_131 (lv_at hl 1 rfl) ?_
  refine zi_sipush hC.1.1 hC.1.2.1 dL_law_133 rfl ?_
  refine zi_rem hC.1.1 hC.1.2.1 dL_law_136 (by omega) (by omega) ?_
  refine zi_add hC.1.1 hC.1.2.1 dL_law_137 ?_
  refine lv_iload hC.1.1 hC.1.2.1 dL_law_138 (lv_at hl 1 rfl) ?_
  refine zi_const hC.1.1 hC.1.2.1 dL_law_140 ?_
  refine zi_div hC.1.1 hC.1.2.1 dL_law_141 (by omega) (by omega) ?_
  refine zi_const hC.1.1 hC.1.2.1 dL_law_142 ?_
  refine zi_rem hC.1.1 hC.1.2.1 dL_law_143 (by omega) (by omega) ?_
  refine lv_iload hC.1.1 hC.1.2.1 dL_law_144 (lv_at hl 1 rfl) ?_
  refine zi_bipush hC.1.1 hC.1.2.1 dL_law_146 rfl ?_
  refine zi_rem hC.1.1 hC.1.2.1 dL_law_148 (by omega) (by omega) ?_
  refine lv_iload hC.1.1 hC.1.2.1 dL_law_149 (lv_at hl 1 rfl) ?_
  refine zi_bipush hC.1.1 hC.1.2.1 dL_law_151 rfl ?_
  refine zi_rem hC.1.1 hC.1.2.1 dL_law_153 (by omega) (by omega) ?_
  refine lv_iload hC.1.1 hC.1.2.1 dL_law_154 (lv_at hl 1 rfl) ?_
  refine zi_bipush hC.1.1 hC.1.2.1 dL_law_156 rfl ?_
  refine zi_rem hC.1.1 hC.1.2.1 dL_law_158 (by omega) (by omega) ?_
  refine zi_const hC.1.1 hC.1.2.1 dL_law_159 ?_
  refine zi_sub hC.1.1 hC.1.2.1 dL_law_160 ?_
  refine g_plan hst hC hP hS hI1.1 (by omega) (by omega) (by omega) (by omega) (by omega) (by omega) (by omega) (thL_x hx (by omega)) dL_law_161 hl.1 (Nat.le_of_ble_eq_true rfl) ⟨(Nat.le_of_ble_eq_true rfl), (Nat.le_of_ble_eq_true rfl)⟩ ⟨by show _ ≤ 679788; omega, by show _ ≤ 7062465; omega⟩ (fun z2 σ2 κ H locs hz2 hP hS => ?_)
  rw [el, e01, ← hz1] at hz2
  have hb2 : -1 ≤ z2 ∧ z2 ≤ 16 := by omega
  refine lv_istore (lv' := [(6, .int (iz z2)), (5, .int (iz z1)), (4, .int (iz x)), (3, .int (iz (k : Int))), (2, .int (iz (σ 0 1))), (1, .ref (h 0)), (0, .ref b)]) hC.1.1 hC.1.2.1 dL_law_164 hl (by decide) rfl (fun ls hl => ?_)
  refine lv_iload hC.1.1 hC.1.2.1 dL_law_166 (lv_at hl 0 rfl) ?_
  refine lv_iload hC.1.1 hC.1.2.1 dL_law_168 (lv_at hl 1 rfl) ?_
  refine zi_if_ne (tgt := 177) hC.1.1 hC.1.2.1 dL_law_170 (by decide) (by omega) (fun hne => ?_) (fun heq => ?_)
  · obtain ⟨-, rfl, hs2⟩ : z1 ≠ 0 ∧ z2 = -1 ∧ σ2 = u2 (lay σ (σ 0 1).toNat (x % 3) (x % 1000) (1 + x % 200) (x / 3 % 3) (x % 90) (x % 80) (x % 33 - 1)) 14 (σ 0 1).toNat 0 := by
      rcases hz2 with q | q
      · exact q
      · exact absurd q.1 hne
    have hI2 : INS σ2 := by rw [hs2]; exact s_off hI h0
    have e2 : σ2 0 1 = σ 0 1 := by rw [hs2, u2_row (by decide), lay_0]
    refine zi_const hC.1.1 hC.1.2.1 dL_law_177 ?_
    refine zi_icmp_ne (tgt := 207) hC.1.1 hC.1.2.1 dL_law_178 (by decide) (by decide) (by decide) (fun q => absurd rfl q) (fun _ => ?_)
    refine lv_iload hC.1.1 hC.1.2.1 dL_law_181 (lv_at hl 1 rfl) ?_
    refine zi_if_ne (tgt := 200) hC.1.1 hC.1.2.1 dL_law_183 (by decide) (by omega) (fun _ => ?_) (fun q => absurd q hne)
    refine lv_aload_n hC.1.1 hC.1.2.1 dL_law_200 rfl (lv_at hl 5 rfl) ?_
    refine d_fine0 hC hP hS hI2.1 dL_law_201 hl.1 (Nat.le_of_ble_eq_true rfl) ⟨(Nat.le_of_ble_eq_true rfl), (Nat.le_of_ble_eq_true rfl)⟩ ⟨by show _ ≤ 679788; omega, by show _ ≤ 7062465; omega⟩ (fun κ H locs hP hS => ?_)
    rw [b2i_t (fineM_of hI2.2.1 hI2.1)]
    refine zi_if_ne (tgt := 209) hC.1.1 hC.1.2.1 dL_law_204 (by decide) (by decide) (fun _ => ?_) (fun q => absurd q (by decide))
    refine lv_iload_n hC.1.1 hC.1.2.1 dL_law_209 rfl (lv_at hl 4 rfl) ?_
    refine lv_iload hC.1.1 hC.1.2.1 dL_law_210 (lv_at hl 0 rfl) ?_
    refine zi_if_lt (tgt := 219) hC.1.1 hC.1.2.1 dL_law_212 (by decide) (by decide) (fun _ => ?_) (fun q => absurd q (by decide))
    refine zi_const hC.1.1 hC.1.2.1 dL_law_219 ?_
    refine zi_add hC.1.1 hC.1.2.1 dL_law_220 ?_
    rw [show σ 0 1 + 0 = σ2 0 1 by omega]
    refine lv_istore_n (lv' := [(2, .int (iz (σ2 0 1))), (6, .int (iz (-1))), (5, .int (iz z1)), (4, .int (iz x)), (3, .int (iz (k : Int))), (1, .ref (h 0)), (0, .ref b)]) hC.1.1 hC.1.2.1 dL_law_221 rfl hl (by decide) rfl (fun ls hl => ?_)
    exact lw_tail l hst hC hk hI2 hW (by omega) hP hS (lv_sub hl [4, 0, 5, 6] rfl) ⟨by omega, by omega⟩ (fun σ κ H locs ls h1 h2 h3 h4 h5 => (kk σ κ H locs ls h1 h2 h3 h4 h5).wide (by omega) (by omega))
  · obtain ⟨-, rfl, hs2⟩ : z1 = 0 ∧ z2 = σ 0 1 ∧ σ2 = u2 (lay σ (σ 0 1).toNat (x % 3) (x % 1000) (1 + x % 200) (x / 3 % 3) (x % 90) (x % 80) (x % 33 - 1)) 0 1 (σ 0 1 + 1) := by
      rcases hz2 with q | q
      · exact absurd heq q.1
      · exact q
    have hI2 : INS σ2 := by rw [hs2]; exact s_on hI h0 (by rw [← hz1]; exact heq)
    have e2 : σ2 0 1 = σ 0 1 + 1 := by rw [hs2, u2_at]
    have e14 : σ2 14 (σ 0 1).toNat = 1 := by rw [hs2, u2_row (by decide), lay_14]
    have e8 : σ2 8 (σ 0 1).toNat = x % 1000 := by rw [hs2, u2_row (by decide), lay_8]
    refine lv_iload_n hC.1.1 hC.1.2.1 dL_law_173 rfl (lv_at hl 4 rfl) ?_
    refine lv_goto (tgt := 178) hC.1.1 hC.1.2.1 dL_law_174 (by decide) ?_
    refine zi_icmp_ne (tgt := 207) hC.1.1 hC.1.2.1 dL_law_178 (by decide) (by omega) (by omega) (fun q => absurd rfl q) (fun _ => ?_)
    refine lv_iload hC.1.1 hC.1.2.1 dL_law_181 (lv_at hl 1 rfl) ?_
    refine zi_if_ne (tgt := 200) hC.1.1 hC.1.2.1 dL_law_183 (by decide) (by omega) (fun q => absurd heq q) (fun _ => ?_)
    refine lv_aload_n hC.1.1 hC.1.2.1 dL_law_186 rfl (lv_at hl 5 rfl) ?_
    refine lv_iload_n hC.1.1 hC.1.2.1 dL_law_187 rfl (lv_at hl 4 rfl) ?_
    refine g_start hst hC hP hS hI2.1 (a := σ 0 1) (by omega) (by unfold th1; rw [if_pos (by omega)]) dL_law_188 hl.1 (Nat.le_of_ble_eq_true rfl) ⟨(Nat.le_of_ble_eq_true rfl), (Nat.le_of_ble_eq_true rfl)⟩ ⟨by show _ ≤ 679788; omega, by show _ ≤ 7062465; omega⟩ (fun z3 H locs hz3 hP hS => ?_)
    rw [e14, if_neg (by decide), e8] at hz3
    subst hz3
    refine lv_iload hC.1.1 hC.1.2.1 dL_law_191 (lv_at hl 2 rfl) ?_
    refine zi_sipush hC.1.1 hC.1.2.1 dL_law_193 rfl ?_
    refine zi_rem hC.1.1 hC.1.2.1 dL_law_196 (by omega) (by omega) ?_
    refine zi_icmp_ne (tgt := 207) hC.1.1 hC.1.2.1 dL_law_197 (by decide) (by omega) (by omega) (fun q => absurd rfl q) (fun _ => ?_)
    refine lv_aload_n hC.1.1 hC.1.2.1 dL_law_200 rfl (lv_at hl 5 rfl) ?_
    refine d_fine0 hC hP hS hI2.1 dL_law_201 hl.1 (Nat.le_of_ble_eq_true rfl) ⟨(Nat.le_of_ble_eq_true rfl), (Nat.le_of_ble_eq_true rfl)⟩ ⟨by show _ ≤ 679788; omega, by show _ ≤ 7062465; omega⟩ (fun κ H locs hP hS => ?_)
    rw [b2i_t (fineM_of hI2.2.1 hI2.1)]
    refine zi_if_ne (tgt := 209) hC.1.1 hC.1.2.1 dL_law_204 (by decide) (by decide) (fun _ => ?_) (fun q => absurd q (by decide))
    refine lv_iload_n hC.1.1 hC.1.2.1 dL_law_209 rfl (lv_at hl 4 rfl) ?_
    refine lv_iload hC.1.1 hC.1.2.1 dL_law_210 (lv_at hl 0 rfl) ?_
    refine zi_if_lt (tgt := 219) hC.1.1 hC.1.2.1 dL_law_212 (by decide) (by omega) (fun q => by omega) (fun _ => ?_)
    refine zi_const hC.1.1 hC.1.2.1 dL_law_215 ?_
    refine lv_goto (tgt := 220) hC.1.1 hC.1.2.1 dL_law_216 (by decide) ?_
    refine zi_add hC.1.1 hC.1.2.1 dL_law_220 ?_
    rw [show σ 0 1 + 1 = σ2 0 1 by omega]
    refine lv_istore_n (lv' := [(2, .int (iz (σ2 0 1))), (6, .int (iz (σ 0 1))), (5, .int (iz z1)), (4, .int (iz x)), (3, .int (iz (k : Int))), (1, .ref (h 0)), (0, .ref b)]) hC.1.1 hC.1.2.1 dL_law_221 rfl hl (by decide) rfl (fun ls hl => ?_)
    exact lw_tail l hst hC hk hI2 hW (by omega) hP hS (lv_sub hl [4, 0, 5, 6] rfl) ⟨by omega, by omega⟩ (fun σ κ H locs ls h1 h2 h3 h4 h5 => (kk σ κ H locs ls h1 h2 h3 h4 h5).wide (by omega) (by omega))
set_option maxHeartbeats 4000000 in
/-- sixteen acts out of the script -/
theorem lw_loop (l : Launch) (hst : l.stackTraces = false) {p : Program} {e : Env} {s : State} {m : MethodId} {below : List Frame} {meth : Method} {cd : Code} {h : Nat → Nat} {D : va_G} {c : Nat → ClassId} {b L : Nat} {xs : Nat → Int32} (hC : CX p m cd cL_law 7 s #[Value.ref b] h D c (fun q => s.heap.size ≤ q)) (hr : meth.sig.returnType = ret) (hlocks : meth.locks = false) (hXs : va_X b L xs s s.heap) (hbl : b < s.heap.size) (hL : L ≤ 260) :
    ∀ (n k : Nat), k + n = 16 → ∀ (σ κ : Nat → Nat → Int) (ω : Nat × (Nat → Int32) × Int32) (H : Heap) (locs : List Loc) (ls : Array Slot), INS σ → WL ω [] → σ 0 1 ≤ (k : Int) → zB 32 h D (gC c h σ κ ω) H → va_S (fun q => s.heap.size ≤ q) s.heap H locs → lv_has ls 7 [(3, .int (iz ((k : Int) : Int))), (2, .int (iz (σ 0 1))), (1, .ref (h 0)), (0, .ref b)] →
      W p l e room_1 s m #[Value.ref b] below meth cd H locs (7653 + 917 * k) (45975 + 5502 * k) (lw_Z below #[Value.ref b] s) (F0 m 43 ls []) := by
  intro n
  induction n with
  | zero =>
    intro k hk σ κ ω H locs ls hI hW hn hP hS hl
    refine lv_iload_n hC.1.1 hC.1.2.1 dL_law_43 rfl (lv_at hl 0 rfl) ?_
    refine zi_bipush hC.1.1 hC.1.2.1 dL_law_44 rfl ?_
    refine zi_icmp_ge (tgt := 250) hC.1.1 hC.1.2.1 dL_law_46 (by decide) (by omega) (by omega) (fun _ => ?_) (fun q => by omega)
    refine lv_iconst (v := 1) hC.1.1 hC.1.2.1 dL_law_250 rfl ?_
    refine va_forget hS.2.2 ?_
    refine W.widen (k := 679788) (n := 7062465) (by omega) (by omega) ?_
    exact lw_ret hC.1.1 hC.1.2.1 hr hlocks dL_law_251
  | succ n ih =>
    intro k hk σ κ ω H locs ls hI hW hn hP hS hl
    have g := GI_01 hI.1
    have hbA : ¬ (fun q : Nat => s.heap.size ≤ q) b := Nat.not_le.mpr hbl
    refine lv_iload_n hC.1.1 hC.1.2.1 dL_law_43 rfl (lv_at hl 0 rfl) ?_
    refine zi_bipush hC.1.1 hC.1.2.1 dL_law_44 rfl ?_
    refine zi_icmp_ge (tgt := 250) hC.1.1 hC.1.2.1 dL_law_46 (by decide) (by omega) (by omega) (fun q => by omega) (fun _ => ?_)
    have k70 : ∀ x : Int, 0 ≤ x ∧ x ≤ 16777215 → W p l e room_1 s m #[Value.ref b] below meth cd H locs (7653 + 917 * k) (45975 + 5502 * k) (lw_Z below #[Value.ref b] s) (F0 m 70 ls [.int (iz x)]) := fun x hx => by
      refine lv_istore (lv' := [(4, .int (iz x)), (3, .int (iz (k : Int))), (2, .int (iz (σ 0 1))), (1, .ref (h 0)), (0, .ref b)]) hC.1.1 hC.1.2.1 dL_law_70 hl (by decide) rfl (fun ls hl => ?_)
      exact lw_step l hst hC (by omega) hx hI hW hn hP hS hl ⟨by omega, by omega⟩ (fun σ κ H locs ls h1 h2 h3 h4 h5 => (ih (k + 1) (by omega) σ κ ω H locs ls h1 hW h2 h3 h4 h5).wide (by omega) (by omega))
    refine lv_aload_n hC.1.1 hC.1.2.1 dL_law_49 rfl (lv_at hl 3 rfl) ?_
    refine va_slen hC.1.1 hC.1.2.1 hXs hbl hbA hS dL_law_50 ?_
    rw [show Int32.ofNat L = iz (L : Int) from iz_nI L]
    refine zi_if_ne (tgt := 61) hC.1.1 hC.1.2.1 dL_law_51 (by decide) (by omega) (fun hL0 => ?_) (fun hL0 => ?_)
    · refine lv_aload_n hC.1.1 hC.1.2.1 dL_law_61 rfl (lv_at hl 3 rfl) ?_
      refine lv_iload_n hC.1.1 hC.1.2.1 dL_law_62 rfl (lv_at hl 0 rfl) ?_
      refine lv_aload_n hC.1.1 hC.1.2.1 dL_law_63 rfl (lv_at hl 3 rfl) ?_
      refine va_slen hC.1.1 hC.1.2.1 hXs hbl hbA hS dL_law_64 ?_
      rw [show Int32.ofNat L = iz (L : Int) from iz_nI L]
      refine zi_rem hC.1.1 hC.1.2.1 dL_law_65 (by omega) (by omega) ?_
      refine va_sld hC.1.1 hC.1.2.1 hXs hbl hbA hS (iz_in ⟨Int.emod_nonneg _ (by omega), Int.emod_lt_of_pos _ (by omega)⟩ (by omega)) dL_law_66 ?_
      obtain ⟨x, hx, ex⟩ := ush_rg (xs (iz ((k : Int) % (L : Int))).toNatClampNeg)
      refine zi_bipush hC.1.1 hC.1.2.1 dL_law_67 rfl ?_
      refine lv_iushr hC.1.1 hC.1.2.1 dL_law_69 ex ?_
      exact k70 x hx
    · refine zi_bipush hC.1.1 hC.1.2.1 dL_law_54 rfl ?_
      refine lv_iload_n hC.1.1 hC.1.2.1 dL_law_56 rfl (lv_at hl 0 rfl) ?_
      refine zi_mul hC.1.1 hC.1.2.1 dL_law_57 ?_
      refine lv_goto (tgt := 70) hC.1.1 hC.1.2.1 dL_law_58 (by decide) ?_
      exact k70 _ (by omega)
