/-! The cases of the law's switch, one by one. -/
theorem tw_rel_T {md : Nat → Nat} {s t : Nat → Nat → Nat} {g T : Nat → Nat} (h : tw_rel md s t g T) {p : Nat} (hp : p < s 9 1) : s 6 p = g (T (p + 1)) ∧ 1 ≤ T (p + 1) ∧ T (p + 1) < t 13 1 := by
  obtain ⟨-, -, ⟨e1, -⟩, ⟨⟨t1, t2, t3, t4, -⟩, q, -⟩⟩ := h
  refine ⟨q p hp, ?_, t3 _ (by omega)⟩
  rcases Nat.eq_zero_or_pos (T (p + 1)) with z | z
  · have := t4 (p + 1) 0 (by omega) (by omega) (by rw [z, t2])
    omega
  · exact z
theorem tw_rel_own {md : Nat → Nat} {s t : Nat → Nat → Nat} {g T : Nat → Nat} (h : tw_rel md s t g T) {y : Nat} (h1 : 1 ≤ y) (h2 : y < t 13 1) : tw_In t (t 1 y) y := by
  obtain ⟨hci, ⟨r1, r2, -, -⟩, ⟨-, a2, -⟩, -⟩ := h
  obtain ⟨x1, -, x3, x4, -⟩ := a2 y h1 h2
  obtain ⟨y1, y2, -⟩ := hci.1.2.1 _ x1
  show t 2 y < t 10 (4 * t 1 y + t 1 y)
  rw [x4, x3, r2 _ _ y1 y1, r1 _ y1]
  exact y2
theorem tw_rd {j L k : Nat} (hj : 4 * j + 4 ≤ L) (hL : L ≤ 2048) (hk : k ≤ 3) : vp_in (nI (4 * j) + nI k) L := by
  rw [show nI (4 * j) + nI k = nI (4 * j + k) from nI_add _ _]
  exact vp_in_nI (by omega) (by omega)
section TWCASE
variable {p : Program} {l : Launch} {e : Env} {s : State} {m : MethodId} {args : Array Value} {below : List Frame} {meth : Method} {c : Code} {H : Heap} {locs : List Loc} {cells slots : Nat} {Q : State → Prop}
variable {ls : Array Slot} {D : va_G} {x o y b L j : Nat} {xs : Nat → Int32} {ad bd : Nat → Nat} {st mt : Nat → Nat → Nat} {fo : Nat → Int64} {cI cJ cL cZ : ClassId}
set_option maxHeartbeats 4000000 in
set_option maxRecDepth 100000 in
theorem tw_case_insert (S : CallFix p m c cL_law 7 s args tw_wall RL) (hX : va_X b L xs s s.heap) (hbl : b < s.heap.size) (hlt : l.stackTraces = false) (Z : tw_Z (fun q => s.heap.size ≤ q) s) (hN : va_Nc "java/lang/IllegalStateException" "java/lang/IllegalArgumentException" s) (hjL : 4 * j + 4 ≤ L) (hL : L ≤ 2048) (w : TWL D cI cJ cL cZ x ad st o fo y bd mt H locs s) (hi : tw_inv j st mt) (hl : lv_has ls 7 [(0, .ref b), (1, .ref x), (2, .ref y), (3, .ref o), (4, .int (nI (4 * j)))]) (hfc : cells + 4 ≤ room_1.cells) (hfs : slots + 24 ≤ room_1.slots)
    (kk : ∀ (st1 : Nat → Nat → Nat) (fo1 : Nat → Int64) (mt1 : Nat → Nat → Nat) (H1 : Heap) (locs1 : List Loc) (ls1 : Array Slot), TWL D cI cJ cL cZ x ad st1 o fo1 y bd mt1 H1 locs1 s → tw_inv (j + 1) st1 mt1 → lv_has ls1 7 [(0, .ref b), (1, .ref x), (2, .ref y), (3, .ref o), (4, .int (nI (4 * j)))] → W p l e room_1 s m args below meth c H1 locs1 (cells + 4) (slots + 24) Q (F0 m 620 ls1 [])) : W p l e room_1 s m args below meth c H locs cells slots Q (F0 m 84 ls []) := by
  have hbA : ¬ s.heap.size ≤ b := Nat.not_le.mpr hbl
  have r1 := tw_rd (k := 1) hjL hL (by omega)
  have r2 := tw_rd (k := 2) hjL hL (by omega)
  have r3 := tw_rd (k := 3) hjL hL (by omega)
  obtain ⟨md, g, T, h, hc, hn, b4, b0, b8, b10⟩ := hi
  have hj : j < 512 := by omega
  refine lv_aload_n S.1 S.2.1 dL_law_84 rfl (lv_at hl 1 rfl) ?_
  refine lv_aload_n S.1 S.2.1 dL_law_85 rfl (lv_at hl 0 rfl) ?_
  refine lv_iload S.1 S.2.1 dL_law_86 (lv_at hl 4 rfl) ?_
  refine lv_iconst (v := nI 1) S.1 S.2.1 dL_law_88 (by decide) ?_
  refine lv_iadd S.1 S.2.1 dL_law_89 ?_
  refine va_sld S.1 S.2.1 hX hbl hbA w.2.2.2 r1 dL_law_90 ?_
  refine lv_aload_n S.1 S.2.1 dL_law_91 rfl (lv_at hl 0 rfl) ?_
  refine lv_iload S.1 S.2.1 dL_law_92 (lv_at hl 4 rfl) ?_
  refine lv_iconst (v := nI 2) S.1 S.2.1 dL_law_94 (by decide) ?_
  refine lv_iadd S.1 S.2.1 dL_law_95 ?_
  refine va_sld S.1 S.2.1 hX hbl hbA w.2.2.2 r2 dL_law_96 ?_
  refine lv_aload_n S.1 S.2.1 dL_law_97 rfl (lv_at hl 0 rfl) ?_
  refine lv_iload S.1 S.2.1 dL_law_98 (lv_at hl 4 rfl) ?_
  refine lv_iconst (v := nI 3) S.1 S.2.1 dL_law_100 (by decide) ?_
  refine lv_iadd S.1 S.2.1 dL_law_101 ?_
  refine va_sld S.1 S.2.1 hX hbl hbA w.2.2.2 r3 dL_law_102 ?_
  refine lv_aload_n S.1 S.2.1 dL_law_103 rfl (lv_at hl 3 rfl) ?_
  refine tw_wci (n := 5) S w Z hN (kL_insert l D cI cJ cL x ad st o fo _ hlt h.1 h.2.1.1 (by omega) b4) (tw_gS wl_L_45 wt_L_insert wi_L wy_L_insert) rfl rfl (by decide +kernel) ⟨Nat.le_of_ble_eq_true rfl, Nat.le_of_ble_eq_true rfl⟩ rfl hl.1 rfl (Nat.le_of_ble_eq_true rfl) dL_law_104 ⟨hfc, hfs⟩ (fun k u H locs h1 w => ?_)
  refine lv_istore (lv' := [(5, .int k), (0, .ref b), (1, .ref x), (2, .ref y), (3, .ref o), (4, .int (nI (4 * j)))]) S.1 S.2.1 dL_law_107 hl (by decide) rfl (fun ls hl => ?_)
  refine lv_aload_n S.1 S.2.1 dL_law_109 rfl (lv_at hl 3 rfl) ?_
  refine lv_aload_n S.1 S.2.1 dL_law_110 rfl (lv_at hl 1 rfl) ?_
  refine lv_iload S.1 S.2.1 dL_law_111 (lv_at hl 5 rfl) ?_
  refine lv_iconst (v := nI 1) S.1 S.2.1 dL_law_113 (by decide) ?_
  refine lv_iadd S.1 S.2.1 dL_law_114 ?_
  refine va_sld S.1 S.2.1 hX hbl hbA w.2.2.2 r1 dL_law_115 ?_
  refine lv_aload_n S.1 S.2.1 dL_law_116 rfl (lv_at hl 1 rfl) ?_
  refine lv_iload S.1 S.2.1 dL_law_117 (lv_at hl 5 rfl) ?_
  refine lv_iconst (v := nI 2) S.1 S.2.1 dL_law_119 (by decide) ?_
  refine lv_iadd S.1 S.2.1 dL_law_120 ?_
  refine va_sld S.1 S.2.1 hX hbl hbA w.2.2.2 r2 dL_law_121 ?_
  refine lv_aload_n S.1 S.2.1 dL_law_122 rfl (lv_at hl 1 rfl) ?_
  refine lv_iload S.1 S.2.1 dL_law_123 (lv_at hl 5 rfl) ?_
  refine lv_iconst (v := nI 3) S.1 S.2.1 dL_law_125 (by decide) ?_
  refine lv_iadd S.1 S.2.1 dL_law_126 ?_
  refine va_sld S.1 S.2.1 hX hbl hbA w.2.2.2 r3 dL_law_127 ?_
  refine tw_yci (n := 3) S w (kX1_insert l D cI cZ y bd mt _ (fun a ha => tw_rel_lkp h hc (by omega) ha) (fun a ha => by rw [h.2.1.2.2.1 a ha]; exact h.1.1.2.2.1 a ha) (by have := h.2.2.1.1; have := (tw_bd_of h.1 (show st 9 0 ≤ 512 by omega)).1; omega) b0 (fun y9 => by have := b0 y9; omega) h.2.2.2.2.2.2.2.1 (fun y9 g1 g2 => tw_rel_own h g1 g2)) (tw_gV wl_L_50 wn_X1_insert ws_X1_insert wi_X1 wy_X1_insert) rfl rfl (by decide +kernel) ⟨Nat.le_of_ble_eq_true rfl, Nat.le_of_ble_eq_true rfl⟩ rfl hl.1 rfl (Nat.le_of_ble_eq_true rfl) dL_law_128 ⟨hfc, hfs⟩ (fun r u' H locs h2 w => ?_)
  obtain ⟨hag, hinv⟩ := tw_law_insert h hc hn hj b4 b0 b8 b10 h1 h2
  refine lv_istore (lv' := [(6, .int r), (5, .int k), (0, .ref b), (1, .ref x), (2, .ref y), (3, .ref o), (4, .int (nI (4 * j)))]) S.1 S.2.1 dL_law_131 hl (by decide) rfl (fun ls hl => ?_)
  refine lv_aload_n S.1 S.2.1 dL_law_133 rfl (lv_at hl 4 rfl) ?_
  refine tw_yci (n := 0) S w (kX1_thrown l D cI cZ y bd _ _) (tw_gV wl_L_51 wn_X1_thrown ws_X1_thrown wi_X1 wy_X1_thrown) rfl rfl (by decide +kernel) ⟨Nat.le_of_ble_eq_true rfl, Nat.le_of_ble_eq_true rfl⟩ rfl hl.1 rfl (Nat.le_of_ble_eq_true rfl) dL_law_134 ⟨hfc, hfs⟩ (fun r9 u9 H locs h9 w9 => ?_)
  obtain ⟨e8, e9⟩ := h9
  rw [e9] at w9
  rw [e8]
  refine lv_iload S.1 S.2.1 dL_law_137 (lv_at hl 1 rfl) ?_
  refine lv_icmp_eq (tgt := 144) S.1 S.2.1 dL_law_139 (by decide) (fun _ => ?_) (fun g9 => absurd hag.1 g9)
  refine lv_iload S.1 S.2.1 dL_law_144 (lv_at hl 1 rfl) ?_
  refine lv_if_ne (tgt := 161) S.1 S.2.1 dL_law_146 (by decide) (fun _ => ?_) (fun g9 => ?_)
  · refine lv_goto (tgt := 620) S.1 S.2.1 dL_law_161 (by decide) ?_
    exact kk _ _ _ _ _ _ w9 hinv (lv_sub hl [2, 3, 4, 5, 6] rfl)
  · refine lv_aload_n S.1 S.2.1 dL_law_149 rfl (lv_at hl 5 rfl) ?_
    refine lv_iconst (v := nI 0) S.1 S.2.1 dL_law_150 (by decide) ?_
    refine va_lald S.1 S.2.1 w9.1 w9.2.1 0 2 rfl rfl (vp_in_nI (n := 0) (N := 1) (by decide) (by decide)) dL_law_151 ?_
    refine lv_iload S.1 S.2.1 dL_law_152 (lv_at hl 0 rfl) ?_
    refine lv_i2l (v := r.toInt64) S.1 S.2.1 dL_law_154 rfl ?_
    refine W.lcmp S.1 S.2.1 dL_law_155 ?_
    refine lv_if_eq (tgt := 161) S.1 S.2.1 dL_law_156 (by decide) (fun _ => ?_) (fun g10 => absurd ((lg_cmp_eq _ _).mpr (by rw [nI_clamp (by decide)]; exact hag.2 (g9.trans nI_0.symm))) g10)
    refine lv_goto (tgt := 620) S.1 S.2.1 dL_law_161 (by decide) ?_
    exact kk _ _ _ _ _ _ w9 hinv (lv_sub hl [2, 3, 4, 5, 6] rfl)
set_option maxHeartbeats 4000000 in
set_option maxRecDepth 100000 in
theorem tw_case_remove (S : CallFix p m c cL_law 7 s args tw_wall RL) (hX : va_X b L xs s s.heap) (hbl : b < s.heap.size) (hlt : l.stackTraces = false) (Z : tw_Z (fun q => s.heap.size ≤ q) s) (hN : va_Nc "java/lang/IllegalStateException" "java/lang/IllegalArgumentException" s) (hjL : 4 * j + 4 ≤ L) (hL : L ≤ 2048) (w : TWL D cI cJ cL cZ x ad st o fo y bd mt H locs s) (hi : tw_inv j st mt) (hl : lv_has ls 7 [(0, .ref b), (1, .ref x), (2, .ref y), (3, .ref o), (4, .int (nI (4 * j)))]) (hfc : cells + 4 ≤ room_1.cells) (hfs : slots + 24 ≤ room_1.slots)
    (kk : ∀ (st1 : Nat → Nat → Nat) (fo1 : Nat → Int64) (mt1 : Nat → Nat → Nat) (H1 : Heap) (locs1 : List Loc) (ls1 : Array Slot), TWL D cI cJ cL cZ x ad st1 o fo1 y bd mt1 H1 locs1 s → tw_inv (j + 1) st1 mt1 → lv_has ls1 7 [(0, .ref b), (1, .ref x), (2, .ref y), (3, .ref o), (4, .int (nI (4 * j)))] → W p l e room_1 s m args below meth c H1 locs1 (cells + 4) (slots + 24) Q (F0 m 620 ls1 [])) : W p l e room_1 s m args below meth c H locs cells slots Q (F0 m 164 ls []) := by
  have hbA : ¬ s.heap.size ≤ b := Nat.not_le.mpr hbl
  have r1 := tw_rd (k := 1) hjL hL (by omega)
  have r2 := tw_rd (k := 2) hjL hL (by omega)
  have r3 := tw_rd (k := 3) hjL hL (by omega)
  obtain ⟨md, g, T, h, hc, hn, b4, b0, b8, b10⟩ := hi
  have hj : j < 512 := by omega
  refine lv_aload_n S.1 S.2.1 dL_law_164 rfl (lv_at hl 1 rfl) ?_
  refine lv_aload_n S.1 S.2.1 dL_law_165 rfl (lv_at hl 0 rfl) ?_
  refine lv_iload S.1 S.2.1 dL_law_166 (lv_at hl 4 rfl) ?_
  refine lv_iconst (v := nI 1) S.1 S.2.1 dL_law_168 (by decide) ?_
  refine lv_iadd S.1 S.2.1 dL_law_169 ?_
  refine va_sld S.1 S.2.1 hX hbl hbA w.2.2.2 r1 dL_law_170 ?_
  refine lv_aload_n S.1 S.2.1 dL_law_171 rfl (lv_at hl 0 rfl) ?_
  refine lv_iload S.1 S.2.1 dL_law_172 (lv_at hl 4 rfl) ?_
  refine lv_iconst (v := nI 2) S.1 S.2.1 dL_law_174 (by decide) ?_
  refine lv_iadd S.1 S.2.1 dL_law_175 ?_
  refine va_sld S.1 S.2.1 hX hbl hbA w.2.2.2 r2 dL_law_176 ?_
  refine lv_aload_n S.1 S.2.1 dL_law_177 rfl (lv_at hl 3 rfl) ?_
  refine tw_wci (n := 4) S w Z hN (kL_remove l D cI cJ cL x ad st o fo _ hlt h.1 h.2.1.1 (by omega) b4) (tw_gS wl_L_55 wt_L_remove wi_L wy_L_remove) rfl rfl (by decide +kernel) ⟨Nat.le_of_ble_eq_true rfl, Nat.le_of_ble_eq_true rfl⟩ rfl hl.1 rfl (Nat.le_of_ble_eq_true rfl) dL_law_178 ⟨hfc, hfs⟩ (fun k u H locs h1 w => ?_)
  refine lv_istore (lv' := [(5, .int k), (0, .ref b), (1, .ref x), (2, .ref y), (3, .ref o), (4, .int (nI (4 * j)))]) S.1 S.2.1 dL_law_181 hl (by decide) rfl (fun ls hl => ?_)
  refine lv_aload_n S.1 S.2.1 dL_law_183 rfl (lv_at hl 3 rfl) ?_
  refine lv_aload_n S.1 S.2.1 dL_law_184 rfl (lv_at hl 1 rfl) ?_
  refine lv_iload S.1 S.2.1 dL_law_185 (lv_at hl 5 rfl) ?_
  refine lv_iconst (v := nI 1) S.1 S.2.1 dL_law_187 (by decide) ?_
  refine lv_iadd S.1 S.2.1 dL_law_188 ?_
  refine va_sld S.1 S.2.1 hX hbl hbA w.2.2.2 r1 dL_law_189 ?_
  refine lv_aload_n S.1 S.2.1 dL_law_190 rfl (lv_at hl 1 rfl) ?_
  refine lv_iload S.1 S.2.1 dL_law_191 (lv_at hl 5 rfl) ?_
  refine lv_iconst (v := nI 2) S.1 S.2.1 dL_law_193 (by decide) ?_
  refine lv_iadd S.1 S.2.1 dL_law_194 ?_
  refine va_sld S.1 S.2.1 hX hbl hbA w.2.2.2 r2 dL_law_195 ?_
  refine tw_yci (n := 2) S w (kX1_remove l D cI cZ y bd mt _ (fun a ha => tw_rel_lkp h hc (by omega) ha) (fun a ha => by rw [h.2.1.2.2.1 a ha]; exact h.1.1.2.2.1 a ha)) (tw_gV wl_L_58 wn_X1_remove ws_X1_remove wi_X1 wy_X1_remove) rfl rfl (by decide +kernel) ⟨Nat.le_of_ble_eq_true rfl, Nat.le_of_ble_eq_true rfl⟩ rfl hl.1 rfl (Nat.le_of_ble_eq_true rfl) dL_law_196 ⟨hfc, hfs⟩ (fun r u' H locs h2 w => ?_)
  obtain ⟨hag, hinv⟩ := tw_law_remove h hc hn hj b4 b0 b8 b10 h1 h2
  refine lv_istore (lv' := [(6, .int r), (5, .int k), (0, .ref b), (1, .ref x), (2, .ref y), (3, .ref o), (4, .int (nI (4 * j)))]) S.1 S.2.1 dL_law_199 hl (by decide) rfl (fun ls hl => ?_)
  refine lv_aload_n S.1 S.2.1 dL_law_201 rfl (lv_at hl 4 rfl) ?_
  refine tw_yci (n := 0) S w (kX1_thrown l D cI cZ y bd _ _) (tw_gV wl_L_51 wn_X1_thrown ws_X1_thrown wi_X1 wy_X1_thrown) rfl rfl (by decide +kernel) ⟨Nat.le_of_ble_eq_true rfl, Nat.le_of_ble_eq_true rfl⟩ rfl hl.1 rfl (Nat.le_of_ble_eq_true rfl) dL_law_202 ⟨hfc, hfs⟩ (fun r9 u9 H locs h9 w9 => ?_)
  obtain ⟨e8, e9⟩ := h9
  rw [e9] at w9
  rw [e8]
  refine lv_iload S.1 S.2.1 dL_law_205 (lv_at hl 1 rfl) ?_
  refine lv_icmp_eq (tgt := 212) S.1 S.2.1 dL_law_207 (by decide) (fun _ => ?_) (fun g9 => absurd hag.1 g9)
  refine lv_iload S.1 S.2.1 dL_law_212 (lv_at hl 1 rfl) ?_
  refine lv_if_ne (tgt := 229) S.1 S.2.1 dL_law_214 (by decide) (fun _ => ?_) (fun g9 => ?_)
  · refine lv_goto (tgt := 620) S.1 S.2.1 dL_law_229 (by decide) ?_
    exact kk _ _ _ _ _ _ w9 hinv (lv_sub hl [2, 3, 4, 5, 6] rfl)
  · refine lv_aload_n S.1 S.2.1 dL_law_217 rfl (lv_at hl 5 rfl) ?_
    refine lv_iconst (v := nI 0) S.1 S.2.1 dL_law_218 (by decide) ?_
    refine va_lald S.1 S.2.1 w9.1 w9.2.1 0 2 rfl rfl (vp_in_nI (n := 0) (N := 1) (by decide) (by decide)) dL_law_219 ?_
    refine lv_iload S.1 S.2.1 dL_law_220 (lv_at hl 0 rfl) ?_
    refine lv_i2l (v := r.toInt64) S.1 S.2.1 dL_law_222 rfl ?_
    refine W.lcmp S.1 S.2.1 dL_law_223 ?_
    refine lv_if_eq (tgt := 229) S.1 S.2.1 dL_law_224 (by decide) (fun _ => ?_) (fun g10 => absurd ((lg_cmp_eq _ _).mpr (by rw [nI_clamp (by decide)]; exact hag.2 (g9.trans nI_0.symm))) g10)
    refine lv_goto (tgt := 620) S.1 S.2.1 dL_law_229 (by decide) ?_
    exact kk _ _ _ _ _ _ w9 hinv (lv_sub hl [2, 3, 4, 5, 6] rfl)
set_option maxHeartbeats 4000000 in
set_option maxRecDepth 100000 in
theorem tw_case_bring (S : CallFix p m c cL_law 7 s args tw_wall RL) (hX : va_X b L xs s s.heap) (hbl : b < s.heap.size) (hlt : l.stackTraces = false) (Z : tw_Z (fun q => s.heap.size ≤ q) s) (hN : va_Nc "java/lang/IllegalStateException" "java/lang/IllegalArgumentException" s) (hjL : 4 * j + 4 ≤ L) (hL : L ≤ 2048) (w : TWL D cI cJ cL cZ x ad st o fo y bd mt H locs s) (hi : tw_inv j st mt) (hl : lv_has ls 7 [(0, .ref b), (1, .ref x), (2, .ref y), (3, .ref o), (4, .int (nI (4 * j)))]) (hfc : cells + 4 ≤ room_1.cells) (hfs : slots + 24 ≤ room_1.slots)
    (kk : ∀ (st1 : Nat → Nat → Nat) (fo1 : Nat → Int64) (mt1 : Nat → Nat → Nat) (H1 : Heap) (locs1 : List Loc) (ls1 : Array Slot), TWL D cI cJ cL cZ x ad st1 o fo1 y bd mt1 H1 locs1 s → tw_inv (j + 1) st1 mt1 → lv_has ls1 7 [(0, .ref b), (1, .ref x), (2, .ref y), (3, .ref o), (4, .int (nI (4 * j)))] → W p l e room_1 s m args below meth c H1 locs1 (cells + 4) (slots + 24) Q (F0 m 620 ls1 [])) : W p l e room_1 s m args below meth c H locs cells slots Q (F0 m 232 ls []) := by
  have hbA : ¬ s.heap.size ≤ b := Nat.not_le.mpr hbl
  have r1 := tw_rd (k := 1) hjL hL (by omega)
  have r2 := tw_rd (k := 2) hjL hL (by omega)
  have r3 := tw_rd (k := 3) hjL hL (by omega)
  obtain ⟨md, g, T, h, hc, hn, b4, b0, b8, b10⟩ := hi
  have hj : j < 512 := by omega
  refine lv_aload_n S.1 S.2.1 dL_law_232 rfl (lv_at hl 1 rfl) ?_
  refine lv_aload_n S.1 S.2.1 dL_law_233 rfl (lv_at hl 0 rfl) ?_
  refine lv_iload S.1 S.2.1 dL_law_234 (lv_at hl 4 rfl) ?_
  refine lv_iconst (v := nI 1) S.1 S.2.1 dL_law_236 (by decide) ?_
  refine lv_iadd S.1 S.2.1 dL_law_237 ?_
  refine va_sld S.1 S.2.1 hX hbl hbA w.2.2.2 r1 dL_law_238 ?_
  refine lv_aload_n S.1 S.2.1 dL_law_239 rfl (lv_at hl 0 rfl) ?_
  refine lv_iload S.1 S.2.1 dL_law_240 (lv_at hl 4 rfl) ?_
  refine lv_iconst (v := nI 2) S.1 S.2.1 dL_law_242 (by decide) ?_
  refine lv_iadd S.1 S.2.1 dL_law_243 ?_
  refine va_sld S.1 S.2.1 hX hbl hbA w.2.2.2 r2 dL_law_244 ?_
  refine lv_aload_n S.1 S.2.1 dL_law_245 rfl (lv_at hl 0 rfl) ?_
  refine lv_iload S.1 S.2.1 dL_law_246 (lv_at hl 4 rfl) ?_
  refine lv_iconst (v := nI 3) S.1 S.2.1 dL_law_248 (by decide) ?_
  refine lv_iadd S.1 S.2.1 dL_law_249 ?_
  refine va_sld S.1 S.2.1 hX hbl hbA w.2.2.2 r3 dL_law_250 ?_
  refine tw_wbi (n := 4) S w Z hN (kL_bring l D cI cJ x ad st _ hlt h.1 h.2.1.1 (by omega) b4) (tw_gS wl_L_59 wt_L_bring wi_L wy_L_bring) rfl rfl (by decide +kernel) ⟨Nat.le_of_ble_eq_true rfl, Nat.le_of_ble_eq_true rfl⟩ rfl hl.1 rfl (Nat.le_of_ble_eq_true rfl) dL_law_251 ⟨hfc, hfs⟩ (fun k u H locs h1 w => ?_)
  refine lv_istore (lv' := [(5, .int k), (0, .ref b), (1, .ref x), (2, .ref y), (3, .ref o), (4, .int (nI (4 * j)))]) S.1 S.2.1 dL_law_254 hl (by decide) rfl (fun ls hl => ?_)
  refine lv_aload_n S.1 S.2.1 dL_law_256 rfl (lv_at hl 3 rfl) ?_
  refine lv_aload_n S.1 S.2.1 dL_law_257 rfl (lv_at hl 1 rfl) ?_
  refine lv_iload S.1 S.2.1 dL_law_258 (lv_at hl 5 rfl) ?_
  refine lv_iconst (v := nI 1) S.1 S.2.1 dL_law_260 (by decide) ?_
  refine lv_iadd S.1 S.2.1 dL_law_261 ?_
  refine va_sld S.1 S.2.1 hX hbl hbA w.2.2.2 r1 dL_law_262 ?_
  refine lv_aload_n S.1 S.2.1 dL_law_263 rfl (lv_at hl 1 rfl) ?_
  refine lv_iload S.1 S.2.1 dL_law_264 (lv_at hl 5 rfl) ?_
  refine lv_iconst (v := nI 2) S.1 S.2.1 dL_law_266 (by decide) ?_
  refine lv_iadd S.1 S.2.1 dL_law_267 ?_
  refine va_sld S.1 S.2.1 hX hbl hbA w.2.2.2 r2 dL_law_268 ?_
  refine lv_aload_n S.1 S.2.1 dL_law_269 rfl (lv_at hl 1 rfl) ?_
  refine lv_iload S.1 S.2.1 dL_law_270 (lv_at hl 5 rfl) ?_
  refine lv_iconst (v := nI 3) S.1 S.2.1 dL_law_272 (by decide) ?_
  refine lv_iadd S.1 S.2.1 dL_law_273 ?_
  refine va_sld S.1 S.2.1 hX hbl hbA w.2.2.2 r3 dL_law_274 ?_
  refine tw_yvi (n := 3) S w (kX1_bring l D cI cZ y bd mt _ (fun a ha => by rw [h.2.1.2.2.1 a ha]; exact h.1.1.2.2.1 a ha) b8 b10) (tw_gV wl_L_62 wn_X1_bring ws_X1_bring wi_X1 wy_X1_bring) rfl rfl (by decide +kernel) ⟨Nat.le_of_ble_eq_true rfl, Nat.le_of_ble_eq_true rfl⟩ rfl hl.1 rfl (Nat.le_of_ble_eq_true rfl) dL_law_275 ⟨hfc, hfs⟩ (fun u' H locs h2 w => ?_)
  obtain ⟨hag, hinv⟩ := tw_law_bring h hc hn hj b4 b0 b8 b10 h1 h2
  refine lv_aload_n S.1 S.2.1 dL_law_278 rfl (lv_at hl 3 rfl) ?_
  refine tw_yci (n := 0) S w (kX1_thrown l D cI cZ y bd _ _) (tw_gV wl_L_51 wn_X1_thrown ws_X1_thrown wi_X1 wy_X1_thrown) rfl rfl (by decide +kernel) ⟨Nat.le_of_ble_eq_true rfl, Nat.le_of_ble_eq_true rfl⟩ rfl hl.1 rfl (Nat.le_of_ble_eq_true rfl) dL_law_279 ⟨hfc, hfs⟩ (fun r9 u9 H locs h9 w9 => ?_)
  obtain ⟨e8, e9⟩ := h9
  rw [e9] at w9
  rw [e8]
  refine lv_iload S.1 S.2.1 dL_law_282 (lv_at hl 0 rfl) ?_
  refine lv_icmp_eq (tgt := 289) S.1 S.2.1 dL_law_284 (by decide) (fun _ => ?_) (fun g9 => absurd hag g9)
  refine lv_goto (tgt := 620) S.1 S.2.1 dL_law_289 (by decide) ?_
  exact kk _ _ _ _ _ _ w9 hinv (lv_sub hl [1, 2, 3, 4, 5] rfl)
set_option maxHeartbeats 4000000 in
set_option maxRecDepth 100000 in
theorem tw_case_merge (S : CallFix p m c cL_law 7 s args tw_wall RL) (hX : va_X b L xs s s.heap) (hbl : b < s.heap.size) (hlt : l.stackTraces = false) (Z : tw_Z (fun q => s.heap.size ≤ q) s) (hN : va_Nc "java/lang/IllegalStateException" "java/lang/IllegalArgumentException" s) (hjL : 4 * j + 4 ≤ L) (hL : L ≤ 2048) (w : TWL D cI cJ cL cZ x ad st o fo y bd mt H locs s) (hi : tw_inv j st mt) (hl : lv_has ls 7 [(0, .ref b), (1, .ref x), (2, .ref y), (3, .ref o), (4, .int (nI (4 * j)))]) (hfc : cells + 4 ≤ room_1.cells) (hfs : slots + 24 ≤ room_1.slots)
    (kk : ∀ (st1 : Nat → Nat → Nat) (fo1 : Nat → Int64) (mt1 : Nat → Nat → Nat) (H1 : Heap) (locs1 : List Loc) (ls1 : Array Slot), TWL D cI cJ cL cZ x ad st1 o fo1 y bd mt1 H1 locs1 s → tw_inv (j + 1) st1 mt1 → lv_has ls1 7 [(0, .ref b), (1, .ref x), (2, .ref y), (3, .ref o), (4, .int (nI (4 * j)))] → W p l e room_1 s m args below meth c H1 locs1 (cells + 4) (slots + 24) Q (F0 m 620 ls1 [])) : W p l e room_1 s m args below meth c H locs cells slots Q (F0 m 292 ls []) := by
  have hbA : ¬ s.heap.size ≤ b := Nat.not_le.mpr hbl
  have r1 := tw_rd (k := 1) hjL hL (by omega)
  have r2 := tw_rd (k := 2) hjL hL (by omega)
  have r3 := tw_rd (k := 3) hjL hL (by omega)
  obtain ⟨md, g, T, h, hc, hn, b4, b0, b8, b10⟩ := hi
  have hj : j < 512 := by omega
  refine lv_aload_n S.1 S.2.1 dL_law_292 rfl (lv_at hl 1 rfl) ?_
  refine lv_aload_n S.1 S.2.1 dL_law_293 rfl (lv_at hl 0 rfl) ?_
  refine lv_iload S.1 S.2.1 dL_law_294 (lv_at hl 4 rfl) ?_
  refine lv_iconst (v := nI 1) S.1 S.2.1 dL_law_296 (by decide) ?_
  refine lv_iadd S.1 S.2.1 dL_law_297 ?_
  refine va_sld S.1 S.2.1 hX hbl hbA w.2.2.2 r1 dL_law_298 ?_
  refine lv_aload_n S.1 S.2.1 dL_law_299 rfl (lv_at hl 0 rfl) ?_
  refine lv_iload S.1 S.2.1 dL_law_300 (lv_at hl 4 rfl) ?_
  refine lv_iconst (v := nI 2) S.1 S.2.1 dL_law_302 (by decide) ?_
  refine lv_iadd S.1 S.2.1 dL_law_303 ?_
  refine va_sld S.1 S.2.1 hX hbl hbA w.2.2.2 r2 dL_law_304 ?_
  refine lv_aload_n S.1 S.2.1 dL_law_305 rfl (lv_at hl 3 rfl) ?_
  refine tw_wci (n := 4) S w Z hN (kL_merge l D cI cJ cL x ad st o fo _ hlt h.1 h.2.1.1 (by omega) b4) (tw_gS wl_L_63 wt_L_merge wi_L wy_L_merge) rfl rfl (by decide +kernel) ⟨Nat.le_of_ble_eq_true rfl, Nat.le_of_ble_eq_true rfl⟩ rfl hl.1 rfl (Nat.le_of_ble_eq_true rfl) dL_law_306 ⟨hfc, hfs⟩ (fun k u H locs h1 w => ?_)
  refine lv_istore (lv' := [(5, .int k), (0, .ref b), (1, .ref x), (2, .ref y), (3, .ref o), (4, .int (nI (4 * j)))]) S.1 S.2.1 dL_law_309 hl (by decide) rfl (fun ls hl => ?_)
  refine lv_aload_n S.1 S.2.1 dL_law_311 rfl (lv_at hl 3 rfl) ?_
  refine lv_aload_n S.1 S.2.1 dL_law_312 rfl (lv_at hl 1 rfl) ?_
  refine lv_iload S.1 S.2.1 dL_law_313 (lv_at hl 5 rfl) ?_
  refine lv_iconst (v := nI 1) S.1 S.2.1 dL_law_315 (by decide) ?_
  refine lv_iadd S.1 S.2.1 dL_law_316 ?_
  refine va_sld S.1 S.2.1 hX hbl hbA w.2.2.2 r1 dL_law_317 ?_
  refine lv_aload_n S.1 S.2.1 dL_law_318 rfl (lv_at hl 1 rfl) ?_
  refine lv_iload S.1 S.2.1 dL_law_319 (lv_at hl 5 rfl) ?_
  refine lv_iconst (v := nI 2) S.1 S.2.1 dL_law_321 (by decide) ?_
  refine lv_iadd S.1 S.2.1 dL_law_322 ?_
  refine va_sld S.1 S.2.1 hX hbl hbA w.2.2.2 r2 dL_law_323 ?_
  refine tw_yci (n := 2) S w (kX1_merge l D cI cZ y bd mt _ (fun a m9 ha hm => by rw [h.2.1.2.1 a m9 ha hm]; exact (tw_bd_of h.1 (show st 9 0 ≤ 512 by omega)).2.2.2.1 a m9 ha hm)) (tw_gV wl_L_65 wn_X1_merge ws_X1_merge wi_X1 wy_X1_merge) rfl rfl (by decide +kernel) ⟨Nat.le_of_ble_eq_true rfl, Nat.le_of_ble_eq_true rfl⟩ rfl hl.1 rfl (Nat.le_of_ble_eq_true rfl) dL_law_324 ⟨hfc, hfs⟩ (fun r u' H locs h2 w => ?_)
  obtain ⟨hag, hinv⟩ := tw_law_merge h hc hn hj b4 b0 b8 b10 h1 h2
  refine lv_istore (lv' := [(6, .int r), (5, .int k), (0, .ref b), (1, .ref x), (2, .ref y), (3, .ref o), (4, .int (nI (4 * j)))]) S.1 S.2.1 dL_law_327 hl (by decide) rfl (fun ls hl => ?_)
  refine lv_aload_n S.1 S.2.1 dL_law_329 rfl (lv_at hl 4 rfl) ?_
  refine tw_yci (n := 0) S w (kX1_thrown l D cI cZ y bd _ _) (tw_gV wl_L_51 wn_X1_thrown ws_X1_thrown wi_X1 wy_X1_thrown) rfl rfl (by decide +kernel) ⟨Nat.le_of_ble_eq_true rfl, Nat.le_of_ble_eq_true rfl⟩ rfl hl.1 rfl (Nat.le_of_ble_eq_true rfl) dL_law_330 ⟨hfc, hfs⟩ (fun r9 u9 H locs h9 w9 => ?_)
  obtain ⟨e8, e9⟩ := h9
  rw [e9] at w9
  rw [e8]
  refine lv_iload S.1 S.2.1 dL_law_333 (lv_at hl 1 rfl) ?_
  refine lv_icmp_eq (tgt := 340) S.1 S.2.1 dL_law_335 (by decide) (fun _ => ?_) (fun g9 => absurd hag.1 g9)
  refine lv_iload S.1 S.2.1 dL_law_340 (lv_at hl 1 rfl) ?_
  refine lv_if_ne (tgt := 357) S.1 S.2.1 dL_law_342 (by decide) (fun _ => ?_) (fun g9 => ?_)
  · refine lv_goto (tgt := 620) S.1 S.2.1 dL_law_357 (by decide) ?_
    exact kk _ _ _ _ _ _ w9 hinv (lv_sub hl [2, 3, 4, 5, 6] rfl)
  · refine lv_aload_n S.1 S.2.1 dL_law_345 rfl (lv_at hl 5 rfl) ?_
    refine lv_iconst (v := nI 0) S.1 S.2.1 dL_law_346 (by decide) ?_
    refine va_lald S.1 S.2.1 w9.1 w9.2.1 0 2 rfl rfl (vp_in_nI (n := 0) (N := 1) (by decide) (by decide)) dL_law_347 ?_
    refine lv_iload S.1 S.2.1 dL_law_348 (lv_at hl 0 rfl) ?_
    refine lv_i2l (v := r.toInt64) S.1 S.2.1 dL_law_350 rfl ?_
    refine W.lcmp S.1 S.2.1 dL_law_351 ?_
    refine lv_if_eq (tgt := 357) S.1 S.2.1 dL_law_352 (by decide) (fun _ => ?_) (fun g10 => absurd ((lg_cmp_eq _ _).mpr (by rw [nI_clamp (by decide)]; exact hag.2 (g9.trans nI_0.symm))) g10)
    refine lv_goto (tgt := 620) S.1 S.2.1 dL_law_357 (by decide) ?_
    exact kk _ _ _ _ _ _ w9 hinv (lv_sub hl [2, 3, 4, 5, 6] rfl)
set_option maxHeartbeats 4000000 in
set_option maxRecDepth 100000 in
theorem tw_case_length (S : CallFix p m c cL_law 7 s args tw_wall RL) (hX : va_X b L xs s s.heap) (hbl : b < s.heap.size) (hlt : l.stackTraces = false) (Z : tw_Z (fun q => s.heap.size ≤ q) s) (hN : va_Nc "java/lang/IllegalStateException" "java/lang/IllegalArgumentException" s) (hjL : 4 * j + 4 ≤ L) (hL : L ≤ 2048) (w : TWL D cI cJ cL cZ x ad st o fo y bd mt H locs s) (hi : tw_inv j st mt) (hl : lv_has ls 7 [(0, .ref b), (1, .ref x), (2, .ref y), (3, .ref o), (4, .int (nI (4 * j)))]) (hfc : cells + 4 ≤ room_1.cells) (hfs : slots + 24 ≤ room_1.slots)
    (kk : ∀ (st1 : Nat → Nat → Nat) (fo1 : Nat → Int64) (mt1 : Nat → Nat → Nat) (H1 : Heap) (locs1 : List Loc) (ls1 : Array Slot), TWL D cI cJ cL cZ x ad st1 o fo1 y bd mt1 H1 locs1 s → tw_inv (j + 1) st1 mt1 → lv_has ls1 7 [(0, .ref b), (1, .ref x), (2, .ref y), (3, .ref o), (4, .int (nI (4 * j)))] → W p l e room_1 s m args below meth c H1 locs1 (cells + 4) (slots + 24) Q (F0 m 620 ls1 [])) : W p l e room_1 s m args below meth c H locs cells slots Q (F0 m 360 ls []) := by
  have hbA : ¬ s.heap.size ≤ b := Nat.not_le.mpr hbl
  have r1 := tw_rd (k := 1) hjL hL (by omega)
  have r2 := tw_rd (k := 2) hjL hL (by omega)
  have r3 := tw_rd (k := 3) hjL hL (by omega)
  obtain ⟨md, g, T, h, hc, hn, b4, b0, b8, b10⟩ := hi
  have hj : j < 512 := by omega
  refine lv_aload_n S.1 S.2.1 dL_law_360 rfl (lv_at hl 1 rfl) ?_
  refine lv_aload_n S.1 S.2.1 dL_law_361 rfl (lv_at hl 0 rfl) ?_
  refine lv_iload S.1 S.2.1 dL_law_362 (lv_at hl 4 rfl) ?_
  refine lv_iconst (v := nI 1) S.1 S.2.1 dL_law_364 (by decide) ?_
  refine lv_iadd S.1 S.2.1 dL_law_365 ?_
  refine va_sld S.1 S.2.1 hX hbl hbA w.2.2.2 r1 dL_law_366 ?_
  refine lv_aload_n S.1 S.2.1 dL_law_367 rfl (lv_at hl 3 rfl) ?_
  refine tw_wci (n := 3) S w Z hN (kL_length l D cI cJ cL x ad st o fo _ hlt h.1 h.2.1.1 (by omega) b4) (tw_gS wl_L_66 wt_L_length wi_L wy_L_length) rfl rfl (by decide +kernel) ⟨Nat.le_of_ble_eq_true rfl, Nat.le_of_ble_eq_true rfl⟩ rfl hl.1 rfl (Nat.le_of_ble_eq_true rfl) dL_law_368 ⟨hfc, hfs⟩ (fun k u H locs h1 w => ?_)
  refine lv_istore (lv' := [(5, .int k), (0, .ref b), (1, .ref x), (2, .ref y), (3, .ref o), (4, .int (nI (4 * j)))]) S.1 S.2.1 dL_law_371 hl (by decide) rfl (fun ls hl => ?_)
  refine lv_aload_n S.1 S.2.1 dL_law_373 rfl (lv_at hl 3 rfl) ?_
  refine lv_aload_n S.1 S.2.1 dL_law_374 rfl (lv_at hl 1 rfl) ?_
  refine lv_iload S.1 S.2.1 dL_law_375 (lv_at hl 5 rfl) ?_
  refine lv_iconst (v := nI 1) S.1 S.2.1 dL_law_377 (by decide) ?_
  refine lv_iadd S.1 S.2.1 dL_law_378 ?_
  refine va_sld S.1 S.2.1 hX hbl hbA w.2.2.2 r1 dL_law_379 ?_
  refine tw_yci (n := 1) S w (kX1_length l D cI cZ y bd mt _ (fun a ha => tw_rel_lkp h hc (by omega) ha)) (tw_gV wl_L_69 wn_X1_length ws_X1_length wi_X1 wy_X1_length) rfl rfl (by decide +kernel) ⟨Nat.le_of_ble_eq_true rfl, Nat.le_of_ble_eq_true rfl⟩ rfl hl.1 rfl (Nat.le_of_ble_eq_true rfl) dL_law_380 ⟨hfc, hfs⟩ (fun r u' H locs h2 w => ?_)
  obtain ⟨hag, hinv⟩ := tw_law_length h hc hn hj b4 b0 b8 b10 h1 h2
  refine lv_istore (lv' := [(6, .int r), (5, .int k), (0, .ref b), (1, .ref x), (2, .ref y), (3, .ref o), (4, .int (nI (4 * j)))]) S.1 S.2.1 dL_law_383 hl (by decide) rfl (fun ls hl => ?_)
  refine lv_aload_n S.1 S.2.1 dL_law_385 rfl (lv_at hl 4 rfl) ?_
  refine tw_yci (n := 0) S w (kX1_thrown l D cI cZ y bd _ _) (tw_gV wl_L_51 wn_X1_thrown ws_X1_thrown wi_X1 wy_X1_thrown) rfl rfl (by decide +kernel) ⟨Nat.le_of_ble_eq_true rfl, Nat.le_of_ble_eq_true rfl⟩ rfl hl.1 rfl (Nat.le_of_ble_eq_true rfl) dL_law_386 ⟨hfc, hfs⟩ (fun r9 u9 H locs h9 w9 => ?_)
  obtain ⟨e8, e9⟩ := h9
  rw [e9] at w9
  rw [e8]
  refine lv_iload S.1 S.2.1 dL_law_389 (lv_at hl 1 rfl) ?_
  refine lv_icmp_eq (tgt := 396) S.1 S.2.1 dL_law_391 (by decide) (fun _ => ?_) (fun g9 => absurd hag.1 g9)
  refine lv_iload S.1 S.2.1 dL_law_396 (lv_at hl 1 rfl) ?_
  refine lv_if_ne (tgt := 413) S.1 S.2.1 dL_law_398 (by decide) (fun _ => ?_) (fun g9 => ?_)
  · refine lv_goto (tgt := 620) S.1 S.2.1 dL_law_413 (by decide) ?_
    exact kk _ _ _ _ _ _ w9 hinv (lv_sub hl [2, 3, 4, 5, 6] rfl)
  · refine lv_aload_n S.1 S.2.1 dL_law_401 rfl (lv_at hl 5 rfl) ?_
    refine lv_iconst (v := nI 0) S.1 S.2.1 dL_law_402 (by decide) ?_
    refine va_lald S.1 S.2.1 w9.1 w9.2.1 0 2 rfl rfl (vp_in_nI (n := 0) (N := 1) (by decide) (by decide)) dL_law_403 ?_
    refine lv_iload S.1 S.2.1 dL_law_404 (lv_at hl 0 rfl) ?_
    refine lv_i2l (v := r.toInt64) S.1 S.2.1 dL_law_406 rfl ?_
    refine W.lcmp S.1 S.2.1 dL_law_407 ?_
    refine lv_if_eq (tgt := 413) S.1 S.2.1 dL_law_408 (by decide) (fun _ => ?_) (fun g10 => absurd ((lg_cmp_eq _ _).mpr (by rw [nI_clamp (by decide)]; exact hag.2 (g9.trans nI_0.symm))) g10)
    refine lv_goto (tgt := 620) S.1 S.2.1 dL_law_413 (by decide) ?_
    exact kk _ _ _ _ _ _ w9 hinv (lv_sub hl [2, 3, 4, 5, 6] rfl)
set_option maxHeartbeats 4000000 in
set_option maxRecDepth 100000 in
theorem tw_case_letter (S : CallFix p m c cL_law 7 s args tw_wall RL) (hX : va_X b L xs s s.heap) (hbl : b < s.heap.size) (hlt : l.stackTraces = false) (Z : tw_Z (fun q => s.heap.size ≤ q) s) (hN : va_Nc "java/lang/IllegalStateException" "java/lang/IllegalArgumentException" s) (hjL : 4 * j + 4 ≤ L) (hL : L ≤ 2048) (w : TWL D cI cJ cL cZ x ad st o fo y bd mt H locs s) (hi : tw_inv j st mt) (hl : lv_has ls 7 [(0, .ref b), (1, .ref x), (2, .ref y), (3, .ref o), (4, .int (nI (4 * j)))]) (hfc : cells + 4 ≤ room_1.cells) (hfs : slots + 24 ≤ room_1.slots)
    (kk : ∀ (st1 : Nat → Nat → Nat) (fo1 : Nat → Int64) (mt1 : Nat → Nat → Nat) (H1 : Heap) (locs1 : List Loc) (ls1 : Array Slot), TWL D cI cJ cL cZ x ad st1 o fo1 y bd mt1 H1 locs1 s → tw_inv (j + 1) st1 mt1 → lv_has ls1 7 [(0, .ref b), (1, .ref x), (2, .ref y), (3, .ref o), (4, .int (nI (4 * j)))] → W p l e room_1 s m args below meth c H1 locs1 (cells + 4) (slots + 24) Q (F0 m 620 ls1 [])) : W p l e room_1 s m args below meth c H locs cells slots Q (F0 m 416 ls []) := by
  have hbA : ¬ s.heap.size ≤ b := Nat.not_le.mpr hbl
  have r1 := tw_rd (k := 1) hjL hL (by omega)
  have r2 := tw_rd (k := 2) hjL hL (by omega)
  have r3 := tw_rd (k := 3) hjL hL (by omega)
  obtain ⟨md, g, T, h, hc, hn, b4, b0, b8, b10⟩ := hi
  have hj : j < 512 := by omega
  refine lv_aload_n S.1 S.2.1 dL_law_416 rfl (lv_at hl 1 rfl) ?_
  refine lv_aload_n S.1 S.2.1 dL_law_417 rfl (lv_at hl 0 rfl) ?_
  refine lv_iload S.1 S.2.1 dL_law_418 (lv_at hl 4 rfl) ?_
  refine lv_iconst (v := nI 1) S.1 S.2.1 dL_law_420 (by decide) ?_
  refine lv_iadd S.1 S.2.1 dL_law_421 ?_
  refine va_sld S.1 S.2.1 hX hbl hbA w.2.2.2 r1 dL_law_422 ?_
  refine lv_aload_n S.1 S.2.1 dL_law_423 rfl (lv_at hl 0 rfl) ?_
  refine lv_iload S.1 S.2.1 dL_law_424 (lv_at hl 4 rfl) ?_
  refine lv_iconst (v := nI 2) S.1 S.2.1 dL_law_426 (by decide) ?_
  refine lv_iadd S.1 S.2.1 dL_law_427 ?_
  refine va_sld S.1 S.2.1 hX hbl hbA w.2.2.2 r2 dL_law_428 ?_
  refine lv_aload_n S.1 S.2.1 dL_law_429 rfl (lv_at hl 3 rfl) ?_
  refine tw_wci (n := 4) S w Z hN (kL_letter l D cI cJ cL x ad st o fo _ hlt h.1 h.2.1.1 (by omega) b4) (tw_gS wl_L_70 wt_L_letter wi_L wy_L_letter) rfl rfl (by decide +kernel) ⟨Nat.le_of_ble_eq_true rfl, Nat.le_of_ble_eq_true rfl⟩ rfl hl.1 rfl (Nat.le_of_ble_eq_true rfl) dL_law_430 ⟨hfc, hfs⟩ (fun k u H locs h1 w => ?_)
  refine lv_istore (lv' := [(5, .int k), (0, .ref b), (1, .ref x), (2, .ref y), (3, .ref o), (4, .int (nI (4 * j)))]) S.1 S.2.1 dL_law_433 hl (by decide) rfl (fun ls hl => ?_)
  refine lv_aload_n S.1 S.2.1 dL_law_435 rfl (lv_at hl 3 rfl) ?_
  refine lv_aload_n S.1 S.2.1 dL_law_436 rfl (lv_at hl 1 rfl) ?_
  refine lv_iload S.1 S.2.1 dL_law_437 (lv_at hl 5 rfl) ?_
  refine lv_iconst (v := nI 1) S.1 S.2.1 dL_law_439 (by decide) ?_
  refine lv_iadd S.1 S.2.1 dL_law_440 ?_
  refine va_sld S.1 S.2.1 hX hbl hbA w.2.2.2 r1 dL_law_441 ?_
  refine lv_aload_n S.1 S.2.1 dL_law_442 rfl (lv_at hl 1 rfl) ?_
  refine lv_iload S.1 S.2.1 dL_law_443 (lv_at hl 5 rfl) ?_
  refine lv_iconst (v := nI 2) S.1 S.2.1 dL_law_445 (by decide) ?_
  refine lv_iadd S.1 S.2.1 dL_law_446 ?_
  refine va_sld S.1 S.2.1 hX hbl hbA w.2.2.2 r2 dL_law_447 ?_
  refine tw_yci (n := 2) S w (kX1_letter l D cI cZ y bd mt _ (fun a ha => tw_rel_lkp h hc (by omega) ha)) (tw_gV wl_L_72 wn_X1_letter ws_X1_letter wi_X1 wy_X1_letter) rfl rfl (by decide +kernel) ⟨Nat.le_of_ble_eq_true rfl, Nat.le_of_ble_eq_true rfl⟩ rfl hl.1 rfl (Nat.le_of_ble_eq_true rfl) dL_law_448 ⟨hfc, hfs⟩ (fun r u' H locs h2 w => ?_)
  obtain ⟨hag, hinv⟩ := tw_law_pl h hc hn hj b4 b0 b8 b10 (fun p9 hp9 => by obtain ⟨q1, q2, q3⟩ := tw_rel_T h hp9; show st 3 (st 6 p9) = mt 3 (T (p9 + 1)); rw [q1, (h.2.2.1.2.1 _ q2 q3).2.2.2.2.1]) h1 h2
  refine lv_istore (lv' := [(6, .int r), (5, .int k), (0, .ref b), (1, .ref x), (2, .ref y), (3, .ref o), (4, .int (nI (4 * j)))]) S.1 S.2.1 dL_law_451 hl (by decide) rfl (fun ls hl => ?_)
  refine lv_aload_n S.1 S.2.1 dL_law_453 rfl (lv_at hl 4 rfl) ?_
  refine tw_yci (n := 0) S w (kX1_thrown l D cI cZ y bd _ _) (tw_gV wl_L_51 wn_X1_thrown ws_X1_thrown wi_X1 wy_X1_thrown) rfl rfl (by decide +kernel) ⟨Nat.le_of_ble_eq_true rfl, Nat.le_of_ble_eq_true rfl⟩ rfl hl.1 rfl (Nat.le_of_ble_eq_true rfl) dL_law_454 ⟨hfc, hfs⟩ (fun r9 u9 H locs h9 w9 => ?_)
  obtain ⟨e8, e9⟩ := h9
  rw [e9] at w9
  rw [e8]
  refine lv_iload S.1 S.2.1 dL_law_457 (lv_at hl 1 rfl) ?_
  refine lv_icmp_eq (tgt := 464) S.1 S.2.1 dL_law_459 (by decide) (fun _ => ?_) (fun g9 => absurd hag.1 g9)
  refine lv_iload S.1 S.2.1 dL_law_464 (lv_at hl 1 rfl) ?_
  refine lv_if_ne (tgt := 481) S.1 S.2.1 dL_law_466 (by decide) (fun _ => ?_) (fun g9 => ?_)
  · refine lv_goto (tgt := 620) S.1 S.2.1 dL_law_481 (by decide) ?_
    exact kk _ _ _ _ _ _ w9 hinv (lv_sub hl [2, 3, 4, 5, 6] rfl)
  · refine lv_aload_n S.1 S.2.1 dL_law_469 rfl (lv_at hl 5 rfl) ?_
    refine lv_iconst (v := nI 0) S.1 S.2.1 dL_law_470 (by decide) ?_
    refine va_lald S.1 S.2.1 w9.1 w9.2.1 0 2 rfl rfl (vp_in_nI (n := 0) (N := 1) (by decide) (by decide)) dL_law_471 ?_
    refine lv_iload S.1 S.2.1 dL_law_472 (lv_at hl 0 rfl) ?_
    refine lv_i2l (v := r.toInt64) S.1 S.2.1 dL_law_474 rfl ?_
    refine W.lcmp S.1 S.2.1 dL_law_475 ?_
    refine lv_if_eq (tgt := 481) S.1 S.2.1 dL_law_476 (by decide) (fun _ => ?_) (fun g10 => absurd ((lg_cmp_eq _ _).mpr (by rw [nI_clamp (by decide)]; exact hag.2 (g9.trans nI_0.symm))) g10)
    refine lv_goto (tgt := 620) S.1 S.2.1 dL_law_481 (by decide) ?_
    exact kk _ _ _ _ _ _ w9 hinv (lv_sub hl [2, 3, 4, 5, 6] rfl)
set_option maxHeartbeats 4000000 in
set_option maxRecDepth 100000 in
theorem tw_case_name (S : CallFix p m c cL_law 7 s args tw_wall RL) (hX : va_X b L xs s s.heap) (hbl : b < s.heap.size) (hlt : l.stackTraces = false) (Z : tw_Z (fun q => s.heap.size ≤ q) s) (hN : va_Nc "java/lang/IllegalStateException" "java/lang/IllegalArgumentException" s) (hjL : 4 * j + 4 ≤ L) (hL : L ≤ 2048) (w : TWL D cI cJ cL cZ x ad st o fo y bd mt H locs s) (hi : tw_inv j st mt) (hl : lv_has ls 7 [(0, .ref b), (1, .ref x), (2, .ref y), (3, .ref o), (4, .int (nI (4 * j)))]) (hfc : cells + 4 ≤ room_1.cells) (hfs : slots + 24 ≤ room_1.slots)
    (kk : ∀ (st1 : Nat → Nat → Nat) (fo1 : Nat → Int64) (mt1 : Nat → Nat → Nat) (H1 : Heap) (locs1 : List Loc) (ls1 : Array Slot), TWL D cI cJ cL cZ x ad st1 o fo1 y bd mt1 H1 locs1 s → tw_inv (j + 1) st1 mt1 → lv_has ls1 7 [(0, .ref b), (1, .ref x), (2, .ref y), (3, .ref o), (4, .int (nI (4 * j)))] → W p l e room_1 s m args below meth c H1 locs1 (cells + 4) (slots + 24) Q (F0 m 620 ls1 [])) : W p l e room_1 s m args below meth c H locs cells slots Q (F0 m 484 ls []) := by
  have hbA : ¬ s.heap.size ≤ b := Nat.not_le.mpr hbl
  have r1 := tw_rd (k := 1) hjL hL (by omega)
  have r2 := tw_rd (k := 2) hjL hL (by omega)
  have r3 := tw_rd (k := 3) hjL hL (by omega)
  obtain ⟨md, g, T, h, hc, hn, b4, b0, b8, b10⟩ := hi
  have hj : j < 512 := by omega
  refine lv_aload_n S.1 S.2.1 dL_law_484 rfl (lv_at hl 1 rfl) ?_
  refine lv_aload_n S.1 S.2.1 dL_law_485 rfl (lv_at hl 0 rfl) ?_
  refine lv_iload S.1 S.2.1 dL_law_486 (lv_at hl 4 rfl) ?_
  refine lv_iconst (v := nI 1) S.1 S.2.1 dL_law_488 (by decide) ?_
  refine lv_iadd S.1 S.2.1 dL_law_489 ?_
  refine va_sld S.1 S.2.1 hX hbl hbA w.2.2.2 r1 dL_law_490 ?_
  refine lv_aload_n S.1 S.2.1 dL_law_491 rfl (lv_at hl 0 rfl) ?_
  refine lv_iload S.1 S.2.1 dL_law_492 (lv_at hl 4 rfl) ?_
  refine lv_iconst (v := nI 2) S.1 S.2.1 dL_law_494 (by decide) ?_
  refine lv_iadd S.1 S.2.1 dL_law_495 ?_
  refine va_sld S.1 S.2.1 hX hbl hbA w.2.2.2 r2 dL_law_496 ?_
  refine lv_aload_n S.1 S.2.1 dL_law_497 rfl (lv_at hl 3 rfl) ?_
  refine tw_wci (n := 4) S w Z hN (kL_name l D cI cJ cL x ad st o fo _ hlt h.1 h.2.1.1 (by omega) b4) (tw_gS wl_L_73 wt_L_name wi_L wy_L_name) rfl rfl (by decide +kernel) ⟨Nat.le_of_ble_eq_true rfl, Nat.le_of_ble_eq_true rfl⟩ rfl hl.1 rfl (Nat.le_of_ble_eq_true rfl) dL_law_498 ⟨hfc, hfs⟩ (fun k u H locs h1 w => ?_)
  refine lv_istore (lv' := [(5, .int k), (0, .ref b), (1, .ref x), (2, .ref y), (3, .ref o), (4, .int (nI (4 * j)))]) S.1 S.2.1 dL_law_501 hl (by decide) rfl (fun ls hl => ?_)
  refine lv_aload_n S.1 S.2.1 dL_law_503 rfl (lv_at hl 3 rfl) ?_
  refine lv_aload_n S.1 S.2.1 dL_law_504 rfl (lv_at hl 1 rfl) ?_
  refine lv_iload S.1 S.2.1 dL_law_505 (lv_at hl 5 rfl) ?_
  refine lv_iconst (v := nI 1) S.1 S.2.1 dL_law_507 (by decide) ?_
  refine lv_iadd S.1 S.2.1 dL_law_508 ?_
  refine va_sld S.1 S.2.1 hX hbl hbA w.2.2.2 r1 dL_law_509 ?_
  refine lv_aload_n S.1 S.2.1 dL_law_510 rfl (lv_at hl 1 rfl) ?_
  refine lv_iload S.1 S.2.1 dL_law_511 (lv_at hl 5 rfl) ?_
  refine lv_iconst (v := nI 2) S.1 S.2.1 dL_law_513 (by decide) ?_
  refine lv_iadd S.1 S.2.1 dL_law_514 ?_
  refine va_sld S.1 S.2.1 hX hbl hbA w.2.2.2 r2 dL_law_515 ?_
  refine tw_yci (n := 2) S w (kX1_name l D cI cZ y bd mt _ (fun a ha => tw_rel_lkp h hc (by omega) ha)) (tw_gV wl_L_75 wn_X1_name ws_X1_name wi_X1 wy_X1_name) rfl rfl (by decide +kernel) ⟨Nat.le_of_ble_eq_true rfl, Nat.le_of_ble_eq_true rfl⟩ rfl hl.1 rfl (Nat.le_of_ble_eq_true rfl) dL_law_516 ⟨hfc, hfs⟩ (fun r u' H locs h2 w => ?_)
  obtain ⟨hag, hinv⟩ := tw_law_pl h hc hn hj b4 b0 b8 b10 (fun p9 hp9 => by obtain ⟨q1, q2, q3⟩ := tw_rel_T h hp9; show st 4 (st 6 p9) = tw_n mt (T (p9 + 1)); rw [q1, (h.2.2.1.2.1 _ q2 q3).2.2.2.2.2.1]) h1 h2
  refine lv_istore (lv' := [(6, .int r), (5, .int k), (0, .ref b), (1, .ref x), (2, .ref y), (3, .ref o), (4, .int (nI (4 * j)))]) S.1 S.2.1 dL_law_519 hl (by decide) rfl (fun ls hl => ?_)
  refine lv_aload_n S.1 S.2.1 dL_law_521 rfl (lv_at hl 4 rfl) ?_
  refine tw_yci (n := 0) S w (kX1_thrown l D cI cZ y bd _ _) (tw_gV wl_L_51 wn_X1_thrown ws_X1_thrown wi_X1 wy_X1_thrown) rfl rfl (by decide +kernel) ⟨Nat.le_of_ble_eq_true rfl, Nat.le_of_ble_eq_true rfl⟩ rfl hl.1 rfl (Nat.le_of_ble_eq_true rfl) dL_law_522 ⟨hfc, hfs⟩ (fun r9 u9 H locs h9 w9 => ?_)
  obtain ⟨e8, e9⟩ := h9
  rw [e9] at w9
  rw [e8]
  refine lv_iload S.1 S.2.1 dL_law_525 (lv_at hl 1 rfl) ?_
  refine lv_icmp_eq (tgt := 532) S.1 S.2.1 dL_law_527 (by decide) (fun _ => ?_) (fun g9 => absurd hag.1 g9)
  refine lv_iload S.1 S.2.1 dL_law_532 (lv_at hl 1 rfl) ?_
  refine lv_if_ne (tgt := 549) S.1 S.2.1 dL_law_534 (by decide) (fun _ => ?_) (fun g9 => ?_)
  · refine lv_goto (tgt := 620) S.1 S.2.1 dL_law_549 (by decide) ?_
    exact kk _ _ _ _ _ _ w9 hinv (lv_sub hl [2, 3, 4, 5, 6] rfl)
  · refine lv_aload_n S.1 S.2.1 dL_law_537 rfl (lv_at hl 5 rfl) ?_
    refine lv_iconst (v := nI 0) S.1 S.2.1 dL_law_538 (by decide) ?_
    refine va_lald S.1 S.2.1 w9.1 w9.2.1 0 2 rfl rfl (vp_in_nI (n := 0) (N := 1) (by decide) (by decide)) dL_law_539 ?_
    refine lv_iload S.1 S.2.1 dL_law_540 (lv_at hl 0 rfl) ?_
    refine lv_i2l (v := r.toInt64) S.1 S.2.1 dL_law_542 rfl ?_
    refine W.lcmp S.1 S.2.1 dL_law_543 ?_
    refine lv_if_eq (tgt := 549) S.1 S.2.1 dL_law_544 (by decide) (fun _ => ?_) (fun g10 => absurd ((lg_cmp_eq _ _).mpr (by rw [nI_clamp (by decide)]; exact hag.2 (g9.trans nI_0.symm))) g10)
    refine lv_goto (tgt := 620) S.1 S.2.1 dL_law_549 (by decide) ?_
    exact kk _ _ _ _ _ _ w9 hinv (lv_sub hl [2, 3, 4, 5, 6] rfl)
set_option maxHeartbeats 4000000 in
set_option maxRecDepth 100000 in
theorem tw_case_has (S : CallFix p m c cL_law 7 s args tw_wall RL) (hX : va_X b L xs s s.heap) (hbl : b < s.heap.size) (hlt : l.stackTraces = false) (Z : tw_Z (fun q => s.heap.size ≤ q) s) (hN : va_Nc "java/lang/IllegalStateException" "java/lang/IllegalArgumentException" s) (hjL : 4 * j + 4 ≤ L) (hL : L ≤ 2048) (w : TWL D cI cJ cL cZ x ad st o fo y bd mt H locs s) (hi : tw_inv j st mt) (hl : lv_has ls 7 [(0, .ref b), (1, .ref x), (2, .ref y), (3, .ref o), (4, .int (nI (4 * j)))]) (hfc : cells + 4 ≤ room_1.cells) (hfs : slots + 24 ≤ room_1.slots)
    (kk : ∀ (st1 : Nat → Nat → Nat) (fo1 : Nat → Int64) (mt1 : Nat → Nat → Nat) (H1 : Heap) (locs1 : List Loc) (ls1 : Array Slot), TWL D cI cJ cL cZ x ad st1 o fo1 y bd mt1 H1 locs1 s → tw_inv (j + 1) st1 mt1 → lv_has ls1 7 [(0, .ref b), (1, .ref x), (2, .ref y), (3, .ref o), (4, .int (nI (4 * j)))] → W p l e room_1 s m args below meth c H1 locs1 (cells + 4) (slots + 24) Q (F0 m 620 ls1 [])) : W p l e room_1 s m args below meth c H locs cells slots Q (F0 m 552 ls []) := by
  have hbA : ¬ s.heap.size ≤ b := Nat.not_le.mpr hbl
  have r1 := tw_rd (k := 1) hjL hL (by omega)
  have r2 := tw_rd (k := 2) hjL hL (by omega)
  have r3 := tw_rd (k := 3) hjL hL (by omega)
  obtain ⟨md, g, T, h, hc, hn, b4, b0, b8, b10⟩ := hi
  have hj : j < 512 := by omega
  refine lv_aload_n S.1 S.2.1 dL_law_552 rfl (lv_at hl 1 rfl) ?_
  refine lv_aload_n S.1 S.2.1 dL_law_553 rfl (lv_at hl 0 rfl) ?_
  refine lv_iload S.1 S.2.1 dL_law_554 (lv_at hl 4 rfl) ?_
  refine lv_iconst (v := nI 1) S.1 S.2.1 dL_law_556 (by decide) ?_
  refine lv_iadd S.1 S.2.1 dL_law_557 ?_
  refine va_sld S.1 S.2.1 hX hbl hbA w.2.2.2 r1 dL_law_558 ?_
  refine lv_aload_n S.1 S.2.1 dL_law_559 rfl (lv_at hl 0 rfl) ?_
  refine lv_iload S.1 S.2.1 dL_law_560 (lv_at hl 4 rfl) ?_
  refine lv_iconst (v := nI 2) S.1 S.2.1 dL_law_562 (by decide) ?_
  refine lv_iadd S.1 S.2.1 dL_law_563 ?_
  refine va_sld S.1 S.2.1 hX hbl hbA w.2.2.2 r2 dL_law_564 ?_
  refine lv_aload_n S.1 S.2.1 dL_law_565 rfl (lv_at hl 3 rfl) ?_
  refine tw_wci (n := 4) S w Z hN (kL_has l D cI cJ cL x ad st o fo _ hlt h.1 h.2.1.1 (by omega) b4) (tw_gS wl_L_76 wt_L_has wi_L wy_L_has) rfl rfl (by decide +kernel) ⟨Nat.le_of_ble_eq_true rfl, Nat.le_of_ble_eq_true rfl⟩ rfl hl.1 rfl (Nat.le_of_ble_eq_true rfl) dL_law_566 ⟨hfc, hfs⟩ (fun k u H locs h1 w => ?_)
  refine lv_istore (lv' := [(5, .int k), (0, .ref b), (1, .ref x), (2, .ref y), (3, .ref o), (4, .int (nI (4 * j)))]) S.1 S.2.1 dL_law_569 hl (by decide) rfl (fun ls hl => ?_)
  refine lv_aload_n S.1 S.2.1 dL_law_571 rfl (lv_at hl 3 rfl) ?_
  refine lv_aload_n S.1 S.2.1 dL_law_572 rfl (lv_at hl 1 rfl) ?_
  refine lv_iload S.1 S.2.1 dL_law_573 (lv_at hl 5 rfl) ?_
  refine lv_iconst (v := nI 1) S.1 S.2.1 dL_law_575 (by decide) ?_
  refine lv_iadd S.1 S.2.1 dL_law_576 ?_
  refine va_sld S.1 S.2.1 hX hbl hbA w.2.2.2 r1 dL_law_577 ?_
  refine lv_aload_n S.1 S.2.1 dL_law_578 rfl (lv_at hl 1 rfl) ?_
  refine lv_iload S.1 S.2.1 dL_law_579 (lv_at hl 5 rfl) ?_
  refine lv_iconst (v := nI 2) S.1 S.2.1 dL_law_581 (by decide) ?_
  refine lv_iadd S.1 S.2.1 dL_law_582 ?_
  refine va_sld S.1 S.2.1 hX hbl hbA w.2.2.2 r2 dL_law_583 ?_
  refine tw_yci (n := 2) S w (kX1_has l D cI cZ y bd mt _) (tw_gV wl_L_78 wn_X1_has ws_X1_has wi_X1 wy_X1_has) rfl rfl (by decide +kernel) ⟨Nat.le_of_ble_eq_true rfl, Nat.le_of_ble_eq_true rfl⟩ rfl hl.1 rfl (Nat.le_of_ble_eq_true rfl) dL_law_584 ⟨hfc, hfs⟩ (fun r u' H locs h2 w => ?_)
  obtain ⟨hag, hinv⟩ := tw_law_has h hc hn b4 b0 b8 b10 h1 h2
  refine lv_istore (lv' := [(6, .int r), (5, .int k), (0, .ref b), (1, .ref x), (2, .ref y), (3, .ref o), (4, .int (nI (4 * j)))]) S.1 S.2.1 dL_law_587 hl (by decide) rfl (fun ls hl => ?_)
  refine lv_aload_n S.1 S.2.1 dL_law_589 rfl (lv_at hl 4 rfl) ?_
  refine tw_yci (n := 0) S w (kX1_thrown l D cI cZ y bd _ _) (tw_gV wl_L_51 wn_X1_thrown ws_X1_thrown wi_X1 wy_X1_thrown) rfl rfl (by decide +kernel) ⟨Nat.le_of_ble_eq_true rfl, Nat.le_of_ble_eq_true rfl⟩ rfl hl.1 rfl (Nat.le_of_ble_eq_true rfl) dL_law_590 ⟨hfc, hfs⟩ (fun r9 u9 H locs h9 w9 => ?_)
  obtain ⟨e8, e9⟩ := h9
  rw [e9] at w9
  rw [e8]
  refine lv_iload S.1 S.2.1 dL_law_593 (lv_at hl 1 rfl) ?_
  refine lv_icmp_eq (tgt := 600) S.1 S.2.1 dL_law_595 (by decide) (fun _ => ?_) (fun g9 => absurd hag.1 g9)
  refine lv_iload S.1 S.2.1 dL_law_600 (lv_at hl 1 rfl) ?_
  refine lv_if_ne (tgt := 617) S.1 S.2.1 dL_law_602 (by decide) (fun _ => ?_) (fun g9 => ?_)
  · refine lv_goto (tgt := 620) S.1 S.2.1 dL_law_617 (by decide) ?_
    exact kk _ _ _ _ _ _ w9 hinv (lv_sub hl [2, 3, 4, 5, 6] rfl)
  · refine lv_aload_n S.1 S.2.1 dL_law_605 rfl (lv_at hl 5 rfl) ?_
    refine lv_iconst (v := nI 0) S.1 S.2.1 dL_law_606 (by decide) ?_
    refine va_lald S.1 S.2.1 w9.1 w9.2.1 0 2 rfl rfl (vp_in_nI (n := 0) (N := 1) (by decide) (by decide)) dL_law_607 ?_
    refine lv_iload S.1 S.2.1 dL_law_608 (lv_at hl 0 rfl) ?_
    refine lv_i2l (v := r.toInt64) S.1 S.2.1 dL_law_610 rfl ?_
    refine W.lcmp S.1 S.2.1 dL_law_611 ?_
    refine lv_if_eq (tgt := 617) S.1 S.2.1 dL_law_612 (by decide) (fun _ => ?_) (fun g10 => absurd ((lg_cmp_eq _ _).mpr (by rw [nI_clamp (by decide)]; exact hag.2 (g9.trans nI_0.symm))) g10)
    refine lv_goto (tgt := 620) S.1 S.2.1 dL_law_617 (by decide) ?_
    exact kk _ _ _ _ _ _ w9 hinv (lv_sub hl [2, 3, 4, 5, 6] rfl)
end TWCASE
