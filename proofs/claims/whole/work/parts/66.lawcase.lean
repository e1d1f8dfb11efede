set_option maxRecDepth 100000 in
set_option maxHeartbeats 8000000 in
theorem lw_input {p : Program} {l : Launch} {e : Env} {s : State} {m : MethodId} {below : List Frame} {meth : Method} {c : Code} {b Ln : Nat} {xs : Nat → Int32} (hLn : Ln ≤ 2560) (C0 : lw_At p s m meth c b Ln xs) {D : va_G} {cA : Nat → ClassId} (hK : CK D cA s) {aB aP aT aM aN aR : Nat → Nat} {L K : List Nat} {rG : Nat → Option Nat} {i : Nat} (hi : i + 5 ≤ Ln) (kk : AtP p l e s m below meth c b D cA aB aP aT aM aN aR L K rG 586 i) : AtP p l e s m below meth c b D cA aB aP aT aM aN aR L K rG 112 i := by
  intro bI pI pA tI tJ tP tO tR mI mJ mA vI vJ vA qI qJ rI rA rR H locs ls hI hP hD hS hl
  obtain ⟨hx, hb, hr, hml, hown, hts, hX, hbl, hlocks, hgv⟩ := C0
  have hT : ∀ w ∈ wsL_law, w.before #[Value.ref b] s = true := fun w h => hts w (wsL_law_in w h)
  have hA : ∀ q : Nat, s.heap.size ≤ q → (fun q : Nat => s.heap.size ≤ q) q := fun _ h => h
  have hbA : ¬ (fun q : Nat => s.heap.size ≤ q) b := Nat.not_le.mpr hbl
  by_cases z0 : xs (i + 2) = 0
  · obtain ⟨r, bI', pI', pA', tI', tJ', rI', rA', e1, e2, hI'⟩ := a_input hI (xs (i + 1)) (0 : Int32)
    refine lv_aload_n hx hb dL_law_112 rfl (lv_at hl 1 rfl) ?_
    refine gl_arg hx hb hX hbl hbA hS hLn hl 1 (by decide) (by omega) dL_law_113 dL_law_114 dL_law_115 dL_law_116 dL_law_117 ?_
    refine gl_arg hx hb hX hbl hbA hS hLn hl 2 (by decide) (by omega) dL_law_118 dL_law_119 dL_law_120 dL_law_121 dL_law_122 ?_
    refine lv_if_eq (tgt := 130) hx hb dL_law_123 (by decide) (fun c1 => ?_) (fun c1 => absurd z0 c1)
    refine lv_iconst (v := (0 : Int32)) hx hb dL_law_130 (by decide) ?_
    refine gc_i (ws := lX cA aB aP aT aM aN L bI pI pA tI tJ tP tO tR mI mJ mA vI vJ vA qI qJ ++ lM cA aR K rG rI rA rR) (wc := lX cA aB aP aT aM aN L bI pI pA tI tJ tP tO tR mI mJ mA vI vJ vA qI qJ) (wr := lM cA aR K rG rI rA rR) (ws' := lX cA aB aP aT aM aN L bI' pI' pA' tI' tJ' tP tO tR mI mJ mA vI vJ vA qI qJ ++ lM cA aR K rG rI rA rR) (va_runV (As := [.int (xs (i + 1)), .int ((0 : Int32))]) (rest := []) ⟨hx, hb, hml, hown, hT⟩ (k_X4_input l D cA aB aP aT aM aN L H.size  (xs (i + 1)) ((0 : Int32)) bI pI pA tI tJ tP tO tR mI mJ mA vI vJ vA qI qJ _ e1) (cwV 2 hT lg_4_input rfl rfl rfl (by decide +kernel) ⟨Nat.le_of_ble_eq_true rfl, Nat.le_of_ble_eq_true rfl⟩) (pre_V (ci := 4) (q0 := 0) (wr := lM cA aR K rG rI rA rR) (List.Perm.refl _) hK hP hD rfl rfl) rfl rfl hl.1 rfl (lv_room (Nat.le_of_ble_eq_true rfl)) dL_law_131 ⟨Nat.le_of_ble_eq_true rfl, Nat.le_of_ble_eq_true rfl⟩) (List.Perm.refl _) hP hD hS hA (List.Perm.refl _) (fun H locs hP hD hS => ?_)
    refine lv_aload_n hx hb dL_law_134 rfl (lv_at hl 2 rfl) ?_
    refine gl_arg hx hb hX hbl hbA hS hLn hl 1 (by decide) (by omega) dL_law_135 dL_law_136 dL_law_137 dL_law_138 dL_law_139 ?_
    refine gl_arg hx hb hX hbl hbA hS hLn hl 2 (by decide) (by omega) dL_law_140 dL_law_141 dL_law_142 dL_law_143 dL_law_144 ?_
    refine lv_if_eq (tgt := 152) hx hb dL_law_145 (by decide) (fun c1 => ?_) (fun c1 => absurd z0 c1)
    refine lv_iconst (v := (0 : Int32)) hx hb dL_law_152 (by decide) ?_
    refine gc_i (ws := lX cA aB aP aT aM aN L bI' pI' pA' tI' tJ' tP tO tR mI mJ mA vI vJ vA qI qJ ++ lM cA aR K rG rI rA rR) (wc := lM cA aR K rG rI rA rR) (wr := lX cA aB aP aT aM aN L bI' pI' pA' tI' tJ' tP tO tR mI mJ mA vI vJ vA qI qJ) (ws' := lX cA aB aP aT aM aN L bI' pI' pA' tI' tJ' tP tO tR mI mJ mA vI vJ vA qI qJ ++ lM cA aR K rG rI' rA' rR) (va_runV (As := [.int (xs (i + 1)), .int ((0 : Int32))]) (rest := [.int r]) ⟨hx, hb, hml, hown, hT⟩ (k_X5_input l D cA aR K H.size  (xs (i + 1)) ((0 : Int32)) rI rA rG rR _ e2) (cwV 2 hT lg_5_input rfl rfl rfl (by decide +kernel) ⟨Nat.le_of_ble_eq_true rfl, Nat.le_of_ble_eq_true rfl⟩) (pre_V (ci := 5) (q0 := 0) (wr := lX cA aB aP aT aM aN L bI' pI' pA' tI' tJ' tP tO tR mI mJ mA vI vJ vA qI qJ) List.perm_append_comm hK hP hD rfl rfl) rfl rfl hl.1 rfl (lv_room (Nat.le_of_ble_eq_true rfl)) dL_law_153 ⟨Nat.le_of_ble_eq_true rfl, Nat.le_of_ble_eq_true rfl⟩) List.perm_append_comm hP hD hS hA List.perm_append_comm (fun H locs hP hD hS => ?_)
    refine lv_icmp_eq (tgt := 586) hx hb dL_law_156 (by decide) (fun c1 => ?_) (fun c1 => absurd rfl c1)
    exact kk bI' pI' pA' tI' tJ' tP tO tR mI mJ mA vI vJ vA qI qJ rI' rA' rR H locs ls hI' hP hD hS hl
  · obtain ⟨r, bI', pI', pA', tI', tJ', rI', rA', e1, e2, hI'⟩ := a_input hI (xs (i + 1)) (1 : Int32)
    refine lv_aload_n hx hb dL_law_112 rfl (lv_at hl 1 rfl) ?_
    refine gl_arg hx hb hX hbl hbA hS hLn hl 1 (by decide) (by omega) dL_law_113 dL_law_114 dL_law_115 dL_law_116 dL_law_117 ?_
    refine gl_arg hx hb hX hbl hbA hS hLn hl 2 (by decide) (by omega) dL_law_118 dL_law_119 dL_law_120 dL_law_121 dL_law_122 ?_
    refine lv_if_eq (tgt := 130) hx hb dL_law_123 (by decide) (fun c1 => absurd c1 z0) (fun c1 => ?_)
    refine lv_iconst (v := (1 : Int32)) hx hb dL_law_126 (by decide) ?_
    refine lv_goto (tgt := 131) hx hb dL_law_127 (by decide) ?_
    refine gc_i (ws := lX cA aB aP aT aM aN L bI pI pA tI tJ tP tO tR mI mJ mA vI vJ vA qI qJ ++ lM cA aR K rG rI rA rR) (wc := lX cA aB aP aT aM aN L bI pI pA tI tJ tP tO tR mI mJ mA vI vJ vA qI qJ) (wr := lM cA aR K rG rI rA rR) (ws' := lX cA aB aP aT aM aN L bI' pI' pA' tI' tJ' tP tO tR mI mJ mA vI vJ vA qI qJ ++ lM cA aR K rG rI rA rR) (va_runV (As := [.int (xs (i + 1)), .int ((1 : Int32))]) (rest := []) ⟨hx, hb, hml, hown, hT⟩ (k_X4_input l D cA aB aP aT aM aN L H.size  (xs (i + 1)) ((1 : Int32)) bI pI pA tI tJ tP tO tR mI mJ mA vI vJ vA qI qJ _ e1) (cwV 2 hT lg_4_input rfl rfl rfl (by decide +kernel) ⟨Nat.le_of_ble_eq_true rfl, Nat.le_of_ble_eq_true rfl⟩) (pre_V (ci := 4) (q0 := 0) (wr := lM cA aR K rG rI rA rR) (List.Perm.refl _) hK hP hD rfl rfl) rfl rfl hl.1 rfl (lv_room (Nat.le_of_ble_eq_true rfl)) dL_law_131 ⟨Nat.le_of_ble_eq_true rfl, Nat.le_of_ble_eq_true rfl⟩) (List.Perm.refl _) hP hD hS hA (List.Perm.refl _) (fun H locs hP hD hS => ?_)
    refine lv_aload_n hx hb dL_law_134 rfl (lv_at hl 2 rfl) ?_
    refine gl_arg hx hb hX hbl hbA hS hLn hl 1 (by decide) (by omega) dL_law_135 dL_law_136 dL_law_137 dL_law_138 dL_law_139 ?_
    refine gl_arg hx hb hX hbl hbA hS hLn hl 2 (by decide) (by omega) dL_law_140 dL_law_141 dL_law_142 dL_law_143 dL_law_144 ?_
    refine lv_if_eq (tgt := 152) hx hb dL_law_145 (by decide) (fun c1 => absurd c1 z0) (fun c1 => ?_)
    refine lv_iconst (v := (1 : Int32)) hx hb dL_law_148 (by decide) ?_
    refine lv_goto (tgt := 153) hx hb dL_law_149 (by decide) ?_
    refine gc_i (ws := lX cA aB aP aT aM aN L bI' pI' pA' tI' tJ' tP tO tR mI mJ mA vI vJ vA qI qJ ++ lM cA aR K rG rI rA rR) (wc := lM cA aR K rG rI rA rR) (wr := lX cA aB aP aT aM aN L bI' pI' pA' tI' tJ' tP tO tR mI mJ mA vI vJ vA qI qJ) (ws' := lX cA aB aP aT aM aN L bI' pI' pA' tI' tJ' tP tO tR mI mJ mA vI vJ vA qI qJ ++ lM cA aR K rG rI' rA' rR) (va_runV (As := [.int (xs (i + 1)), .int ((1 : Int32))]) (rest := [.int r]) ⟨hx, hb, hml, hown, hT⟩ (k_X5_input l D cA aR K H.size  (xs (i + 1)) ((1 : Int32)) rI rA rG rR _ e2) (cwV 2 hT lg_5_input rfl rfl rfl (by decide +kernel) ⟨Nat.le_of_ble_eq_true rfl, Nat.le_of_ble_eq_true rfl⟩) (pre_V (ci := 5) (q0 := 0) (wr := lX cA aB aP aT aM aN L bI' pI' pA' tI' tJ' tP tO tR mI mJ mA vI vJ vA qI qJ) List.perm_append_comm hK hP hD rfl rfl) rfl rfl hl.1 rfl (lv_room (Nat.le_of_ble_eq_true rfl)) dL_law_153 ⟨Nat.le_of_ble_eq_true rfl, Nat.le_of_ble_eq_true rfl⟩) List.perm_append_comm hP hD hS hA List.perm_append_comm (fun H locs hP hD hS => ?_)
    refine lv_icmp_eq (tgt := 586) hx hb dL_law_156 (by decide) (fun c1 => ?_) (fun c1 => absurd rfl c1)
    exact kk bI' pI' pA' tI' tJ' tP tO tR mI mJ mA vI vJ vA qI qJ rI' rA' rR H locs ls hI' hP hD hS hl

set_option maxRecDepth 100000 in
set_option maxHeartbeats 8000000 in
theorem lw_tell {p : Program} {l : Launch} {e : Env} {s : State} {m : MethodId} {below : List Frame} {meth : Method} {c : Code} {b Ln : Nat} {xs : Nat → Int32} (hLn : Ln ≤ 2560) (C0 : lw_At p s m meth c b Ln xs) {D : va_G} {cA : Nat → ClassId} (hK : CK D cA s) {aB aP aT aM aN aR : Nat → Nat} {L K : List Nat} {rG : Nat → Option Nat} {i : Nat} (hi : i + 5 ≤ Ln) (kk : AtP p l e s m below meth c b D cA aB aP aT aM aN aR L K rG 586 i) : AtP p l e s m below meth c b D cA aB aP aT aM aN aR L K rG 161 i := by
  intro bI pI pA tI tJ tP tO tR mI mJ mA vI vJ vA qI qJ rI rA rR H locs ls hI hP hD hS hl
  obtain ⟨hx, hb, hr, hml, hown, hts, hX, hbl, hlocks, hgv⟩ := C0
  have hT : ∀ w ∈ wsL_law, w.before #[Value.ref b] s = true := fun w h => hts w (wsL_law_in w h)
  have hA : ∀ q : Nat, s.heap.size ≤ q → (fun q : Nat => s.heap.size ≤ q) q := fun _ h => h
  have hbA : ¬ (fun q : Nat => s.heap.size ≤ q) b := Nat.not_le.mpr hbl
  obtain ⟨r, bI', pI', pA', tI', tJ', rI', rA', e1, e2, hI'⟩ := a_tell  hI (xs (i + 1)) (xs (i + 2)) (xs (i + 3)) (xs (i + 4)) 
  refine lv_aload_n hx hb dL_law_161 rfl (lv_at hl 1 rfl) ?_
  refine gl_arg hx hb hX hbl hbA hS hLn hl 1 (by decide) (by omega) dL_law_162 dL_law_163 dL_law_164 dL_law_165 dL_law_166 ?_
  refine gl_arg hx hb hX hbl hbA hS hLn hl 2 (by decide) (by omega) dL_law_167 dL_law_168 dL_law_169 dL_law_170 dL_law_171 ?_
  refine gl_arg hx hb hX hbl hbA hS hLn hl 3 (by decide) (by omega) dL_law_172 dL_law_173 dL_law_174 dL_law_175 dL_law_176 ?_
  refine gl_arg hx hb hX hbl hbA hS hLn hl 4 (by decide) (by omega) dL_law_177 dL_law_178 dL_law_179 dL_law_180 dL_law_181 ?_
  refine gc_i (ws := lX cA aB aP aT aM aN L bI pI pA tI tJ tP tO tR mI mJ mA vI vJ vA qI qJ ++ lM cA aR K rG rI rA rR) (wc := lX cA aB aP aT aM aN L bI pI pA tI tJ tP tO tR mI mJ mA vI vJ vA qI qJ) (wr := lM cA aR K rG rI rA rR) (ws' := lX cA aB aP aT aM aN L bI' pI' pA' tI' tJ' tP tO tR mI mJ mA vI vJ vA qI qJ ++ lM cA aR K rG rI rA rR) (va_runV (As := [.int (xs (i + 1)), .int (xs (i + 2)), .int (xs (i + 3)), .int (xs (i + 4))]) (rest := []) ⟨hx, hb, hml, hown, hT⟩ (k_X4_tell l D cA aB aP aT aM aN L H.size  (xs (i + 1)) (xs (i + 2)) (xs (i + 3)) (xs (i + 4)) bI pI pA tI tJ tP tO tR mI mJ mA vI vJ vA qI qJ _ e1) (cwV 4 hT lg_4_tell rfl rfl rfl (by decide +kernel) ⟨Nat.le_of_ble_eq_true rfl, Nat.le_of_ble_eq_true rfl⟩) (pre_V (ci := 4) (q0 := 0) (wr := lM cA aR K rG rI rA rR) (List.Perm.refl _) hK hP hD rfl rfl) rfl rfl hl.1 rfl (lv_room (Nat.le_of_ble_eq_true rfl)) dL_law_182 ⟨Nat.le_of_ble_eq_true rfl, Nat.le_of_ble_eq_true rfl⟩) (List.Perm.refl _) hP hD hS hA (List.Perm.refl _) (fun H locs hP hD hS => ?_)
  refine lv_aload_n hx hb dL_law_185 rfl (lv_at hl 2 rfl) ?_
  refine gl_arg hx hb hX hbl hbA hS hLn hl 1 (by decide) (by omega) dL_law_186 dL_law_187 dL_law_188 dL_law_189 dL_law_190 ?_
  refine gl_arg hx hb hX hbl hbA hS hLn hl 2 (by decide) (by omega) dL_law_191 dL_law_192 dL_law_193 dL_law_194 dL_law_195 ?_
  refine gl_arg hx hb hX hbl hbA hS hLn hl 3 (by decide) (by omega) dL_law_196 dL_law_197 dL_law_198 dL_law_199 dL_law_200 ?_
  refine gl_arg hx hb hX hbl hbA hS hLn hl 4 (by decide) (by omega) dL_law_201 dL_law_202 dL_law_203 dL_law_204 dL_law_205 ?_
  refine gc_i (ws := lX cA aB aP aT aM aN L bI' pI' pA' tI' tJ' tP tO tR mI mJ mA vI vJ vA qI qJ ++ lM cA aR K rG rI rA rR) (wc := lM cA aR K rG rI rA rR) (wr := lX cA aB aP aT aM aN L bI' pI' pA' tI' tJ' tP tO tR mI mJ mA vI vJ vA qI qJ) (ws' := lX cA aB aP aT aM aN L bI' pI' pA' tI' tJ' tP tO tR mI mJ mA vI vJ vA qI qJ ++ lM cA aR K rG rI' rA' rR) (va_runV (As := [.int (xs (i + 1)), .int (xs (i + 2)), .int (xs (i + 3)), .int (xs (i + 4))]) (rest := [.int r]) ⟨hx, hb, hml, hown, hT⟩ (k_X5_tell l D cA aR K H.size  (xs (i + 1)) (xs (i + 2)) (xs (i + 3)) (xs (i + 4)) rI rA rG rR _ e2) (cwV 4 hT lg_5_tell rfl rfl rfl (by decide +kernel) ⟨Nat.le_of_ble_eq_true rfl, Nat.le_of_ble_eq_true rfl⟩) (pre_V (ci := 5) (q0 := 0) (wr := lX cA aB aP aT aM aN L bI' pI' pA' tI' tJ' tP tO tR mI mJ mA vI vJ vA qI qJ) List.perm_append_comm hK hP hD rfl rfl) rfl rfl hl.1 rfl (lv_room (Nat.le_of_ble_eq_true rfl)) dL_law_206 ⟨Nat.le_of_ble_eq_true rfl, Nat.le_of_ble_eq_true rfl⟩) List.perm_append_comm hP hD hS hA List.perm_append_comm (fun H locs hP hD hS => ?_)
  refine lv_icmp_eq (tgt := 586) hx hb dL_law_209 (by decide) (fun c1 => ?_) (fun c1 => absurd rfl c1)
  exact kk bI' pI' pA' tI' tJ' tP tO tR mI mJ mA vI vJ vA qI qJ rI' rA' rR H locs ls hI' hP hD hS hl

set_option maxRecDepth 100000 in
set_option maxHeartbeats 8000000 in
theorem lw_clear {p : Program} {l : Launch} {e : Env} {s : State} {m : MethodId} {below : List Frame} {meth : Method} {c : Code} {b Ln : Nat} {xs : Nat → Int32} (hLn : Ln ≤ 2560) (C0 : lw_At p s m meth c b Ln xs) {D : va_G} {cA : Nat → ClassId} (hK : CK D cA s) {aB aP aT aM aN aR : Nat → Nat} {L K : List Nat} {rG : Nat → Option Nat} {i : Nat} (hi : i + 5 ≤ Ln) (kk : AtP p l e s m below meth c b D cA aB aP aT aM aN aR L K rG 586 i) : AtP p l e s m below meth c b D cA aB aP aT aM aN aR L K rG 214 i := by
  intro bI pI pA tI tJ tP tO tR mI mJ mA vI vJ vA qI qJ rI rA rR H locs ls hI hP hD hS hl
  obtain ⟨hx, hb, hr, hml, hown, hts, hX, hbl, hlocks, hgv⟩ := C0
  have hT : ∀ w ∈ wsL_law, w.before #[Value.ref b] s = true := fun w h => hts w (wsL_law_in w h)
  have hA : ∀ q : Nat, s.heap.size ≤ q → (fun q : Nat => s.heap.size ≤ q) q := fun _ h => h
  have hbA : ¬ (fun q : Nat => s.heap.size ≤ q) b := Nat.not_le.mpr hbl
  obtain ⟨r, bI', pI', tI', tJ', rI', e1, e2, hI'⟩ := a_clear  hI  
  refine lv_aload_n hx hb dL_law_214 rfl (lv_at hl 1 rfl) ?_
  refine gc_i (ws := lX cA aB aP aT aM aN L bI pI pA tI tJ tP tO tR mI mJ mA vI vJ vA qI qJ ++ lM cA aR K rG rI rA rR) (wc := lX cA aB aP aT aM aN L bI pI pA tI tJ tP tO tR mI mJ mA vI vJ vA qI qJ) (wr := lM cA aR K rG rI rA rR) (ws' := lX cA aB aP aT aM aN L bI' pI' pA tI' tJ' tP tO tR mI mJ mA vI vJ vA qI qJ ++ lM cA aR K rG rI rA rR) (va_runV (As := []) (rest := []) ⟨hx, hb, hml, hown, hT⟩ (k_X4_clear l D cA aB aP aT aM aN L H.size   bI pI pA tI tJ tP tO tR mI mJ mA vI vJ vA qI qJ _ e1) (cwV 0 hT lg_4_clear rfl rfl rfl (by decide +kernel) ⟨Nat.le_of_ble_eq_true rfl, Nat.le_of_ble_eq_true rfl⟩) (pre_V (ci := 4) (q0 := 0) (wr := lM cA aR K rG rI rA rR) (List.Perm.refl _) hK hP hD rfl rfl) rfl rfl hl.1 rfl (lv_room (Nat.le_of_ble_eq_true rfl)) dL_law_215 ⟨Nat.le_of_ble_eq_true rfl, Nat.le_of_ble_eq_true rfl⟩) (List.Perm.refl _) hP hD hS hA (List.Perm.refl _) (fun H locs hP hD hS => ?_)
  refine lv_aload_n hx hb dL_law_218 rfl (lv_at hl 2 rfl) ?_
  refine gc_i (ws := lX cA aB aP aT aM aN L bI' pI' pA tI' tJ' tP tO tR mI mJ mA vI vJ vA qI qJ ++ lM cA aR K rG rI rA rR) (wc := lM cA aR K rG rI rA rR) (wr := lX cA aB aP aT aM aN L bI' pI' pA tI' tJ' tP tO tR mI mJ mA vI vJ vA qI qJ) (ws' := lX cA aB aP aT aM aN L bI' pI' pA tI' tJ' tP tO tR mI mJ mA vI vJ vA qI qJ ++ lM cA aR K rG rI' rA rR) (va_runV (As := []) (rest := [.int r]) ⟨hx, hb, hml, hown, hT⟩ (k_X5_clear l D cA aR K H.size   rI rA rG rR _ e2) (cwV 0 hT lg_5_clear rfl rfl rfl (by decide +kernel) ⟨Nat.le_of_ble_eq_true rfl, Nat.le_of_ble_eq_true rfl⟩) (pre_V (ci := 5) (q0 := 0) (wr := lX cA aB aP aT aM aN L bI' pI' pA tI' tJ' tP tO tR mI mJ mA vI vJ vA qI qJ) List.perm_append_comm hK hP hD rfl rfl) rfl rfl hl.1 rfl (lv_room (Nat.le_of_ble_eq_true rfl)) dL_law_219 ⟨Nat.le_of_ble_eq_true rfl, Nat.le_of_ble_eq_true rfl⟩) List.perm_append_comm hP hD hS hA List.perm_append_comm (fun H locs hP hD hS => ?_)
  refine lv_icmp_eq (tgt := 586) hx hb dL_law_222 (by decide) (fun c1 => ?_) (fun c1 => absurd rfl c1)
  exact kk bI' pI' pA tI' tJ' tP tO tR mI mJ mA vI vJ vA qI qJ rI' rA rR H locs ls hI' hP hD hS hl

set_option maxRecDepth 100000 in
set_option maxHeartbeats 8000000 in
theorem lw_explore {p : Program} {l : Launch} {e : Env} {s : State} {m : MethodId} {below : List Frame} {meth : Method} {c : Code} {b Ln : Nat} {xs : Nat → Int32} (hLn : Ln ≤ 2560) (C0 : lw_At p s m meth c b Ln xs) {D : va_G} {cA : Nat → ClassId} (hK : CK D cA s) {aB aP aT aM aN aR : Nat → Nat} {L K : List Nat} {rG : Nat → Option Nat} {i : Nat} (hi : i + 5 ≤ Ln) (kk : AtP p l e s m below meth c b D cA aB aP aT aM aN aR L K rG 586 i) : AtP p l e s m below meth c b D cA aB aP aT aM aN aR L K rG 227 i := by
  intro bI pI pA tI tJ tP tO tR mI mJ mA vI vJ vA qI qJ rI rA rR H locs ls hI hP hD hS hl
  obtain ⟨hx, hb, hr, hml, hown, hts, hX, hbl, hlocks, hgv⟩ := C0
  have hT : ∀ w ∈ wsL_law, w.before #[Value.ref b] s = true := fun w h => hts w (wsL_law_in w h)
  have hA : ∀ q : Nat, s.heap.size ≤ q → (fun q : Nat => s.heap.size ≤ q) q := fun _ h => h
  have hbA : ¬ (fun q : Nat => s.heap.size ≤ q) b := Nat.not_le.mpr hbl
  obtain ⟨r, tI', tJ', tP', tO', tR', mI', mJ', mA', qI', qJ', rI', rA', rR', e1, e2, hI'⟩ := a_explore (n := 100000) (by decide) hI  mI mJ mA
  refine lv_aload_n hx hb dL_law_227 rfl (lv_at hl 1 rfl) ?_
  refine gc_i (ws := lX cA aB aP aT aM aN L bI pI pA tI tJ tP tO tR mI mJ mA vI vJ vA qI qJ ++ lM cA aR K rG rI rA rR) (wc := lX cA aB aP aT aM aN L bI pI pA tI tJ tP tO tR mI mJ mA vI vJ vA qI qJ) (wr := lM cA aR K rG rI rA rR) (ws' := lX cA aB aP aT aM aN L bI pI pA tI' tJ' tP' tO' tR' mI' mJ' mA' vI vJ vA qI' qJ' ++ lM cA aR K rG rI rA rR) (va_runV (As := []) (rest := []) ⟨hx, hb, hml, hown, hT⟩ (k_X4_explore l D cA aB aP aT aM aN L H.size 100000  bI pI pA tI tJ tP tO tR mI mJ mA vI vJ vA qI qJ _ e1) (cwV 0 hT lg_4_explore rfl rfl rfl (by decide +kernel) ⟨Nat.le_of_ble_eq_true rfl, Nat.le_of_ble_eq_true rfl⟩) (pre_V (ci := 4) (q0 := 0) (wr := lM cA aR K rG rI rA rR) (List.Perm.refl _) hK hP hD rfl rfl) rfl rfl hl.1 rfl (lv_room (Nat.le_of_ble_eq_true rfl)) dL_law_228 ⟨Nat.le_of_ble_eq_true rfl, Nat.le_of_ble_eq_true rfl⟩) (List.Perm.refl _) hP hD hS hA (List.Perm.refl _) (fun H locs hP hD hS => ?_)
  refine lv_aload_n hx hb dL_law_231 rfl (lv_at hl 2 rfl) ?_
  refine gc_i (ws := lX cA aB aP aT aM aN L bI pI pA tI' tJ' tP' tO' tR' mI' mJ' mA' vI vJ vA qI' qJ' ++ lM cA aR K rG rI rA rR) (wc := lM cA aR K rG rI rA rR) (wr := lX cA aB aP aT aM aN L bI pI pA tI' tJ' tP' tO' tR' mI' mJ' mA' vI vJ vA qI' qJ') (ws' := lX cA aB aP aT aM aN L bI pI pA tI' tJ' tP' tO' tR' mI' mJ' mA' vI vJ vA qI' qJ' ++ lM cA aR K rG rI' rA' rR') (va_runV (As := []) (rest := [.int r]) ⟨hx, hb, hml, hown, hT⟩ (k_X5_explore l D cA aR K H.size 100000  rI rA rG rR _ e2) (cwV 0 hT lg_5_explore rfl rfl rfl (by decide +kernel) ⟨Nat.le_of_ble_eq_true rfl, Nat.le_of_ble_eq_true rfl⟩) (pre_V (ci := 5) (q0 := 0) (wr := lX cA aB aP aT aM aN L bI pI pA tI' tJ' tP' tO' tR' mI' mJ' mA' vI vJ vA qI' qJ') List.perm_append_comm hK hP hD rfl rfl) rfl rfl hl.1 rfl (lv_room (Nat.le_of_ble_eq_true rfl)) dL_law_232 ⟨Nat.le_of_ble_eq_true rfl, Nat.le_of_ble_eq_true rfl⟩) List.perm_append_comm hP hD hS hA List.perm_append_comm (fun H locs hP hD hS => ?_)
  refine lv_icmp_eq (tgt := 586) hx hb dL_law_235 (by decide) (fun c1 => ?_) (fun c1 => absurd rfl c1)
  exact kk bI pI pA tI' tJ' tP' tO' tR' mI' mJ' mA' vI vJ vA qI' qJ' rI' rA' rR' H locs ls hI' hP hD hS hl

set_option maxRecDepth 100000 in
set_option maxHeartbeats 8000000 in
theorem lw_path {p : Program} {l : Launch} {e : Env} {s : State} {m : MethodId} {below : List Frame} {meth : Method} {c : Code} {b Ln : Nat} {xs : Nat → Int32} (hLn : Ln ≤ 2560) (C0 : lw_At p s m meth c b Ln xs) {D : va_G} {cA : Nat → ClassId} (hK : CK D cA s) {aB aP aT aM aN aR : Nat → Nat} {L K : List Nat} {rG : Nat → Option Nat} {i : Nat} (hi : i + 5 ≤ Ln) (kk : AtP p l e s m below meth c b D cA aB aP aT aM aN aR L K rG 586 i) : AtP p l e s m below meth c b D cA aB aP aT aM aN aR L K rG 240 i := by
  intro bI pI pA tI tJ tP tO tR mI mJ mA vI vJ vA qI qJ rI rA rR H locs ls hI hP hD hS hl
  obtain ⟨hx, hb, hr, hml, hown, hts, hX, hbl, hlocks, hgv⟩ := C0
  have hT : ∀ w ∈ wsL_law, w.before #[Value.ref b] s = true := fun w h => hts w (wsL_law_in w h)
  have hA : ∀ q : Nat, s.heap.size ≤ q → (fun q : Nat => s.heap.size ≤ q) q := fun _ h => h
  have hbA : ¬ (fun q : Nat => s.heap.size ≤ q) b := Nat.not_le.mpr hbl
  obtain ⟨r, e1, e2⟩ := a_path  hI (xs (i + 1)) (xs (i + 2)) 
  refine lv_aload_n hx hb dL_law_240 rfl (lv_at hl 1 rfl) ?_
  refine gl_arg hx hb hX hbl hbA hS hLn hl 1 (by decide) (by omega) dL_law_241 dL_law_242 dL_law_243 dL_law_244 dL_law_245 ?_
  refine gl_arg hx hb hX hbl hbA hS hLn hl 2 (by decide) (by omega) dL_law_246 dL_law_247 dL_law_248 dL_law_249 dL_law_250 ?_
  refine gc_i (ws := lX cA aB aP aT aM aN L bI pI pA tI tJ tP tO tR mI mJ mA vI vJ vA qI qJ ++ lM cA aR K rG rI rA rR) (wc := lX cA aB aP aT aM aN L bI pI pA tI tJ tP tO tR mI mJ mA vI vJ vA qI qJ) (wr := lM cA aR K rG rI rA rR) (ws' := lX cA aB aP aT aM aN L bI pI pA tI tJ tP tO tR mI mJ mA vI vJ vA qI qJ ++ lM cA aR K rG rI rA rR) (va_runV (As := [.int (xs (i + 1)), .int (xs (i + 2))]) (rest := []) ⟨hx, hb, hml, hown, hT⟩ (k_X4_path l D cA aB aP aT aM aN L H.size  (xs (i + 1)) (xs (i + 2)) bI pI pA tI tJ tP tO tR mI mJ mA vI vJ vA qI qJ _ e1) (cwV 2 hT lg_4_path rfl rfl rfl (by decide +kernel) ⟨Nat.le_of_ble_eq_true rfl, Nat.le_of_ble_eq_true rfl⟩) (pre_V (ci := 4) (q0 := 0) (wr := lM cA aR K rG rI rA rR) (List.Perm.refl _) hK hP hD rfl rfl) rfl rfl hl.1 rfl (lv_room (Nat.le_of_ble_eq_true rfl)) dL_law_251 ⟨Nat.le_of_ble_eq_true rfl, Nat.le_of_ble_eq_true rfl⟩) (List.Perm.refl _) hP hD hS hA (List.Perm.refl _) (fun H locs hP hD hS => ?_)
  refine lv_aload_n hx hb dL_law_254 rfl (lv_at hl 2 rfl) ?_
  refine gl_arg hx hb hX hbl hbA hS hLn hl 1 (by decide) (by omega) dL_law_255 dL_law_256 dL_law_257 dL_law_258 dL_law_259 ?_
  refine gl_arg hx hb hX hbl hbA hS hLn hl 2 (by decide) (by omega) dL_law_260 dL_law_261 dL_law_262 dL_law_263 dL_law_264 ?_
  refine gc_i (ws := lX cA aB aP aT aM aN L bI pI pA tI tJ tP tO tR mI mJ mA vI vJ vA qI qJ ++ lM cA aR K rG rI rA rR) (wc := lM cA aR K rG rI rA rR) (wr := lX cA aB aP aT aM aN L bI pI pA tI tJ tP tO tR mI mJ mA vI vJ vA qI qJ) (ws' := lX cA aB aP aT aM aN L bI pI pA tI tJ tP tO tR mI mJ mA vI vJ vA qI qJ ++ lM cA aR K rG rI rA rR) (va_runV (As := [.int (xs (i + 1)), .int (xs (i + 2))]) (rest := [.int r]) ⟨hx, hb, hml, hown, hT⟩ (k_X5_path l D cA aR K H.size  (xs (i + 1)) (xs (i + 2)) rI rA rG rR _ e2) (cwV 2 hT lg_5_path rfl rfl rfl (by decide +kernel) ⟨Nat.le_of_ble_eq_true rfl, Nat.le_of_ble_eq_true rfl⟩) (pre_V (ci := 5) (q0 := 0) (wr := lX cA aB aP aT aM aN L bI pI pA tI tJ tP tO tR mI mJ mA vI vJ vA qI qJ) List.perm_append_comm hK hP hD rfl rfl) rfl rfl hl.1 rfl (lv_room (Nat.le_of_ble_eq_true rfl)) dL_law_265 ⟨Nat.le_of_ble_eq_true rfl, Nat.le_of_ble_eq_true rfl⟩) List.perm_append_comm hP hD hS hA List.perm_append_comm (fun H locs hP hD hS => ?_)
  refine lv_icmp_eq (tgt := 586) hx hb dL_law_268 (by decide) (fun c1 => ?_) (fun c1 => absurd rfl c1)
  exact kk bI pI pA tI tJ tP tO tR mI mJ mA vI vJ vA qI qJ rI rA rR H locs ls hI hP hD hS hl

set_option maxRecDepth 100000 in
set_option maxHeartbeats 8000000 in
theorem lw_decision {p : Program} {l : Launch} {e : Env} {s : State} {m : MethodId} {below : List Frame} {meth : Method} {c : Code} {b Ln : Nat} {xs : Nat → Int32} (hLn : Ln ≤ 2560) (C0 : lw_At p s m meth c b Ln xs) {D : va_G} {cA : Nat → ClassId} (hK : CK D cA s) {aB aP aT aM aN aR : Nat → Nat} {L K : List Nat} {rG : Nat → Option Nat} {i : Nat} (hi : i + 5 ≤ Ln) (kk : AtP p l e s m below meth c b D cA aB aP aT aM aN aR L K rG 586 i) : AtP p l e s m below meth c b D cA aB aP aT aM aN aR L K rG 273 i := by
  intro bI pI pA tI tJ tP tO tR mI mJ mA vI vJ vA qI qJ rI rA rR H locs ls hI hP hD hS hl
  obtain ⟨hx, hb, hr, hml, hown, hts, hX, hbl, hlocks, hgv⟩ := C0
  have hT : ∀ w ∈ wsL_law, w.before #[Value.ref b] s = true := fun w h => hts w (wsL_law_in w h)
  have hA : ∀ q : Nat, s.heap.size ≤ q → (fun q : Nat => s.heap.size ≤ q) q := fun _ h => h
  have hbA : ¬ (fun q : Nat => s.heap.size ≤ q) b := Nat.not_le.mpr hbl
  obtain ⟨r, e1, e2⟩ := a_decision (n := 100000) (by decide) hI (xs (i + 1)) (xs (i + 2)) 
  refine lv_aload_n hx hb dL_law_273 rfl (lv_at hl 1 rfl) ?_
  refine gl_arg hx hb hX hbl hbA hS hLn hl 1 (by decide) (by omega) dL_law_274 dL_law_275 dL_law_276 dL_law_277 dL_law_278 ?_
  refine gl_arg hx hb hX hbl hbA hS hLn hl 2 (by decide) (by omega) dL_law_279 dL_law_280 dL_law_281 dL_law_282 dL_law_283 ?_
  refine gc_i (ws := lX cA aB aP aT aM aN L bI pI pA tI tJ tP tO tR mI mJ mA vI vJ vA qI qJ ++ lM cA aR K rG rI rA rR) (wc := lX cA aB aP aT aM aN L bI pI pA tI tJ tP tO tR mI mJ mA vI vJ vA qI qJ) (wr := lM cA aR K rG rI rA rR) (ws' := lX cA aB aP aT aM aN L bI pI pA tI tJ tP tO tR mI mJ mA vI vJ vA qI qJ ++ lM cA aR K rG rI rA rR) (va_runV (As := [.int (xs (i + 1)), .int (xs (i + 2))]) (rest := []) ⟨hx, hb, hml, hown, hT⟩ (k_X4_decision l D cA aB aP aT aM aN L H.size 100000 (xs (i + 1)) (xs (i + 2)) bI pI pA tI tJ tP tO tR mI mJ mA vI vJ vA qI qJ _ e1) (cwV 2 hT lg_4_decision rfl rfl rfl (by decide +kernel) ⟨Nat.le_of_ble_eq_true rfl, Nat.le_of_ble_eq_true rfl⟩) (pre_V (ci := 4) (q0 := 0) (wr := lM cA aR K rG rI rA rR) (List.Perm.refl _) hK hP hD rfl rfl) rfl rfl hl.1 rfl (lv_room (Nat.le_of_ble_eq_true rfl)) dL_law_284 ⟨Nat.le_of_ble_eq_true rfl, Nat.le_of_ble_eq_true rfl⟩) (List.Perm.refl _) hP hD hS hA (List.Perm.refl _) (fun H locs hP hD hS => ?_)
  refine lv_aload_n hx hb dL_law_287 rfl (lv_at hl 2 rfl) ?_
  refine gl_arg hx hb hX hbl hbA hS hLn hl 1 (by decide) (by omega) dL_law_288 dL_law_289 dL_law_290 dL_law_291 dL_law_292 ?_
  refine gl_arg hx hb hX hbl hbA hS hLn hl 2 (by decide) (by omega) dL_law_293 dL_law_294 dL_law_295 dL_law_296 dL_law_297 ?_
  refine gc_i (ws := lX cA aB aP aT aM aN L bI pI pA tI tJ tP tO tR mI mJ mA vI vJ vA qI qJ ++ lM cA aR K rG rI rA rR) (wc := lM cA aR K rG rI rA rR) (wr := lX cA aB aP aT aM aN L bI pI pA tI tJ tP tO tR mI mJ mA vI vJ vA qI qJ) (ws' := lX cA aB aP aT aM aN L bI pI pA tI tJ tP tO tR mI mJ mA vI vJ vA qI qJ ++ lM cA aR K rG rI rA rR) (va_runV (As := [.int (xs (i + 1)), .int (xs (i + 2))]) (rest := [.int r]) ⟨hx, hb, hml, hown, hT⟩ (k_X5_decision l D cA aR K H.size  (xs (i + 1)) (xs (i + 2)) rI rA rG rR _ e2) (cwV 2 hT lg_5_decision rfl rfl rfl (by decide +kernel) ⟨Nat.le_of_ble_eq_true rfl, Nat.le_of_ble_eq_true rfl⟩) (pre_V (ci := 5) (q0 := 0) (wr := lX cA aB aP aT aM aN L bI pI pA tI tJ tP tO tR mI mJ mA vI vJ vA qI qJ) List.perm_append_comm hK hP hD rfl rfl) rfl rfl hl.1 rfl (lv_room (Nat.le_of_ble_eq_true rfl)) dL_law_298 ⟨Nat.le_of_ble_eq_true rfl, Nat.le_of_ble_eq_true rfl⟩) List.perm_append_comm hP hD hS hA List.perm_append_comm (fun H locs hP hD hS => ?_)
  refine lv_icmp_eq (tgt := 586) hx hb dL_law_301 (by decide) (fun c1 => ?_) (fun c1 => absurd rfl c1)
  exact kk bI pI pA tI tJ tP tO tR mI mJ mA vI vJ vA qI qJ rI rA rR H locs ls hI hP hD hS hl

set_option maxRecDepth 100000 in
set_option maxHeartbeats 8000000 in
theorem lw_holds {p : Program} {l : Launch} {e : Env} {s : State} {m : MethodId} {below : List Frame} {meth : Method} {c : Code} {b Ln : Nat} {xs : Nat → Int32} (hLn : Ln ≤ 2560) (C0 : lw_At p s m meth c b Ln xs) {D : va_G} {cA : Nat → ClassId} (hK : CK D cA s) {aB aP aT aM aN aR : Nat → Nat} {L K : List Nat} {rG : Nat → Option Nat} {i : Nat} (hi : i + 5 ≤ Ln) (kk : AtP p l e s m below meth c b D cA aB aP aT aM aN aR L K rG 586 i) : AtP p l e s m below meth c b D cA aB aP aT aM aN aR L K rG 306 i := by
  intro bI pI pA tI tJ tP tO tR mI mJ mA vI vJ vA qI qJ rI rA rR H locs ls hI hP hD hS hl
  obtain ⟨hx, hb, hr, hml, hown, hts, hX, hbl, hlocks, hgv⟩ := C0
  have hT : ∀ w ∈ wsL_law, w.before #[Value.ref b] s = true := fun w h => hts w (wsL_law_in w h)
  have hA : ∀ q : Nat, s.heap.size ≤ q → (fun q : Nat => s.heap.size ≤ q) q := fun _ h => h
  have hbA : ¬ (fun q : Nat => s.heap.size ≤ q) b := Nat.not_le.mpr hbl
  obtain ⟨r, e1, e2⟩ := a_holds  hI (xs (i + 1)) (xs (i + 2)) 
  refine lv_aload_n hx hb dL_law_306 rfl (lv_at hl 1 rfl) ?_
  refine gl_arg hx hb hX hbl hbA hS hLn hl 1 (by decide) (by omega) dL_law_307 dL_law_308 dL_law_309 dL_law_310 dL_law_311 ?_
  refine gl_arg hx hb hX hbl hbA hS hLn hl 2 (by decide) (by omega) dL_law_312 dL_law_313 dL_law_314 dL_law_315 dL_law_316 ?_
  refine gc_i (ws := lX cA aB aP aT aM aN L bI pI pA tI tJ tP tO tR mI mJ mA vI vJ vA qI qJ ++ lM cA aR K rG rI rA rR) (wc := lX cA aB aP aT aM aN L bI pI pA tI tJ tP tO tR mI mJ mA vI vJ vA qI qJ) (wr := lM cA aR K rG rI rA rR) (ws' := lX cA aB aP aT aM aN L bI pI pA tI tJ tP tO tR mI mJ mA vI vJ vA qI qJ ++ lM cA aR K rG rI rA rR) (va_runV (As := [.int (xs (i + 1)), .int (xs (i + 2))]) (rest := []) ⟨hx, hb, hml, hown, hT⟩ (k_X4_holds l D cA aB aP aT aM aN L H.size  (xs (i + 1)) (xs (i + 2)) bI pI pA tI tJ tP tO tR mI mJ mA vI vJ vA qI qJ _ e1) (cwV 2 hT lg_4_holds rfl rfl rfl (by decide +kernel) ⟨Nat.le_of_ble_eq_true rfl, Nat.le_of_ble_eq_true rfl⟩) (pre_V (ci := 4) (q0 := 0) (wr := lM cA aR K rG rI rA rR) (List.Perm.refl _) hK hP hD rfl rfl) rfl rfl hl.1 rfl (lv_room (Nat.le_of_ble_eq_true rfl)) dL_law_317 ⟨Nat.le_of_ble_eq_true rfl, Nat.le_of_ble_eq_true rfl⟩) (List.Perm.refl _) hP hD hS hA (List.Perm.refl _) (fun H locs hP hD hS => ?_)
  refine lv_aload_n hx hb dL_law_320 rfl (lv_at hl 2 rfl) ?_
  refine gl_arg hx hb hX hbl hbA hS hLn hl 1 (by decide) (by omega) dL_law_321 dL_law_322 dL_law_323 dL_law_324 dL_law_325 ?_
  refine gl_arg hx hb hX hbl hbA hS hLn hl 2 (by decide) (by omega) dL_law_326 dL_law_327 dL_law_328 dL_law_329 dL_law_330 ?_
  refine gc_i (ws := lX cA aB aP aT aM aN L bI pI pA tI tJ tP tO tR mI mJ mA vI vJ vA qI qJ ++ lM cA aR K rG rI rA rR) (wc := lM cA aR K rG rI rA rR) (wr := lX cA aB aP aT aM aN L bI pI pA tI tJ tP tO tR mI mJ mA vI vJ vA qI qJ) (ws' := lX cA aB aP aT aM aN L bI pI pA tI tJ tP tO tR mI mJ mA vI vJ vA qI qJ ++ lM cA aR K rG rI rA rR) (va_runV (As := [.int (xs (i + 1)), .int (xs (i + 2))]) (rest := [.int r]) ⟨hx, hb, hml, hown, hT⟩ (k_X5_holds l D cA aR K H.size  (xs (i + 1)) (xs (i + 2)) rI rA rG rR _ e2) (cwV 2 hT lg_5_holds rfl rfl rfl (by decide +kernel) ⟨Nat.le_of_ble_eq_true rfl, Nat.le_of_ble_eq_true rfl⟩) (pre_V (ci := 5) (q0 := 0) (wr := lX cA aB aP aT aM aN L bI pI pA tI tJ tP tO tR mI mJ mA vI vJ vA qI qJ) List.perm_append_comm hK hP hD rfl rfl) rfl rfl hl.1 rfl (lv_room (Nat.le_of_ble_eq_true rfl)) dL_law_331 ⟨Nat.le_of_ble_eq_true rfl, Nat.le_of_ble_eq_true rfl⟩) List.perm_append_comm hP hD hS hA List.perm_append_comm (fun H locs hP hD hS => ?_)
  refine lv_icmp_eq (tgt := 586) hx hb dL_law_334 (by decide) (fun c1 => ?_) (fun c1 => absurd rfl c1)
  exact kk bI pI pA tI tJ tP tO tR mI mJ mA vI vJ vA qI qJ rI rA rR H locs ls hI hP hD hS hl

set_option maxRecDepth 100000 in
set_option maxHeartbeats 8000000 in
theorem lw_value {p : Program} {l : Launch} {e : Env} {s : State} {m : MethodId} {below : List Frame} {meth : Method} {c : Code} {b Ln : Nat} {xs : Nat → Int32} (hLn : Ln ≤ 2560) (C0 : lw_At p s m meth c b Ln xs) {D : va_G} {cA : Nat → ClassId} (hK : CK D cA s) {aB aP aT aM aN aR : Nat → Nat} {L K : List Nat} {rG : Nat → Option Nat} {i : Nat} (hi : i + 5 ≤ Ln) (kk : AtP p l e s m below meth c b D cA aB aP aT aM aN aR L K rG 586 i) : AtP p l e s m below meth c b D cA aB aP aT aM aN aR L K rG 339 i := by
  intro bI pI pA tI tJ tP tO tR mI mJ mA vI vJ vA qI qJ rI rA rR H locs ls hI hP hD hS hl
  obtain ⟨hx, hb, hr, hml, hown, hts, hX, hbl, hlocks, hgv⟩ := C0
  have hT : ∀ w ∈ wsL_law, w.before #[Value.ref b] s = true := fun w h => hts w (wsL_law_in w h)
  have hA : ∀ q : Nat, s.heap.size ≤ q → (fun q : Nat => s.heap.size ≤ q) q := fun _ h => h
  have hbA : ¬ (fun q : Nat => s.heap.size ≤ q) b := Nat.not_le.mpr hbl
  obtain ⟨r, mI', mJ', mA', rI', rA', e1, e2, hI'⟩ := a_value (n := 100000) (by decide) hI (xs (i + 1)) (xs (i + 2)) mI mJ mA
  refine lv_aload_n hx hb dL_law_339 rfl (lv_at hl 1 rfl) ?_
  refine gl_arg hx hb hX hbl hbA hS hLn hl 1 (by decide) (by omega) dL_law_340 dL_law_341 dL_law_342 dL_law_343 dL_law_344 ?_
  refine gl_arg hx hb hX hbl hbA hS hLn hl 2 (by decide) (by omega) dL_law_345 dL_law_346 dL_law_347 dL_law_348 dL_law_349 ?_
  refine gc_i (ws := lX cA aB aP aT aM aN L bI pI pA tI tJ tP tO tR mI mJ mA vI vJ vA qI qJ ++ lM cA aR K rG rI rA rR) (wc := lX cA aB aP aT aM aN L bI pI pA tI tJ tP tO tR mI mJ mA vI vJ vA qI qJ) (wr := lM cA aR K rG rI rA rR) (ws' := lX cA aB aP aT aM aN L bI pI pA tI tJ tP tO tR mI' mJ' mA' vI vJ vA qI qJ ++ lM cA aR K rG rI rA rR) (va_runV (As := [.int (xs (i + 1)), .int (xs (i + 2))]) (rest := []) ⟨hx, hb, hml, hown, hT⟩ (k_X4_value l D cA aB aP aT aM aN L H.size 100000 (xs (i + 1)) (xs (i + 2)) bI pI pA tI tJ tP tO tR mI mJ mA vI vJ vA qI qJ _ e1) (cwV 2 hT lg_4_value rfl rfl rfl (by decide +kernel) ⟨Nat.le_of_ble_eq_true rfl, Nat.le_of_ble_eq_true rfl⟩) (pre_V (ci := 4) (q0 := 0) (wr := lM cA aR K rG rI rA rR) (List.Perm.refl _) hK hP hD rfl rfl) rfl rfl hl.1 rfl (lv_room (Nat.le_of_ble_eq_true rfl)) dL_law_350 ⟨Nat.le_of_ble_eq_true rfl, Nat.le_of_ble_eq_true rfl⟩) (List.Perm.refl _) hP hD hS hA (List.Perm.refl _) (fun H locs hP hD hS => ?_)
  refine lv_aload_n hx hb dL_law_353 rfl (lv_at hl 2 rfl) ?_
  refine gl_arg hx hb hX hbl hbA hS hLn hl 1 (by decide) (by omega) dL_law_354 dL_law_355 dL_law_356 dL_law_357 dL_law_358 ?_
  refine gl_arg hx hb hX hbl hbA hS hLn hl 2 (by decide) (by omega) dL_law_359 dL_law_360 dL_law_361 dL_law_362 dL_law_363 ?_
  refine gc_i (ws := lX cA aB aP aT aM aN L bI pI pA tI tJ tP tO tR mI' mJ' mA' vI vJ vA qI qJ ++ lM cA aR K rG rI rA rR) (wc := lM cA aR K rG rI rA rR) (wr := lX cA aB aP aT aM aN L bI pI pA tI tJ tP tO tR mI' mJ' mA' vI vJ vA qI qJ) (ws' := lX cA aB aP aT aM aN L bI pI pA tI tJ tP tO tR mI' mJ' mA' vI vJ vA qI qJ ++ lM cA aR K rG rI' rA' rR) (va_runV (As := [.int (xs (i + 1)), .int (xs (i + 2))]) (rest := [.int r]) ⟨hx, hb, hml, hown, hT⟩ (k_X5_value l D cA aR K H.size 100000 (xs (i + 1)) (xs (i + 2)) rI rA rG rR _ e2) (cwV 2 hT lg_5_value rfl rfl rfl (by decide +kernel) ⟨Nat.le_of_ble_eq_true rfl, Nat.le_of_ble_eq_true rfl⟩) (pre_V (ci := 5) (q0 := 0) (wr := lX cA aB aP aT aM aN L bI pI pA tI tJ tP tO tR mI' mJ' mA' vI vJ vA qI qJ) List.perm_append_comm hK hP hD rfl rfl) rfl rfl hl.1 rfl (lv_room (Nat.le_of_ble_eq_true rfl)) dL_law_364 ⟨Nat.le_of_ble_eq_true rfl, Nat.le_of_ble_eq_true rfl⟩) List.perm_append_comm hP hD hS hA List.perm_append_comm (fun H locs hP hD hS => ?_)
  refine lv_icmp_eq (tgt := 586) hx hb dL_law_367 (by decide) (fun c1 => ?_) (fun c1 => absurd rfl c1)
  exact kk bI pI pA tI tJ tP tO tR mI' mJ' mA' vI vJ vA qI qJ rI' rA' rR H locs ls hI' hP hD hS hl

set_option maxRecDepth 100000 in
set_option maxHeartbeats 8000000 in
theorem lw_find {p : Program} {l : Launch} {e : Env} {s : State} {m : MethodId} {below : List Frame} {meth : Method} {c : Code} {b Ln : Nat} {xs : Nat → Int32} (hLn : Ln ≤ 2560) (C0 : lw_At p s m meth c b Ln xs) {D : va_G} {cA : Nat → ClassId} (hK : CK D cA s) {aB aP aT aM aN aR : Nat → Nat} {L K : List Nat} {rG : Nat → Option Nat} {i : Nat} (hi : i + 5 ≤ Ln) (kk : AtP p l e s m below meth c b D cA aB aP aT aM aN aR L K rG 586 i) : AtP p l e s m below meth c b D cA aB aP aT aM aN aR L K rG 372 i := by
  intro bI pI pA tI tJ tP tO tR mI mJ mA vI vJ vA qI qJ rI rA rR H locs ls hI hP hD hS hl
  obtain ⟨hx, hb, hr, hml, hown, hts, hX, hbl, hlocks, hgv⟩ := C0
  have hT : ∀ w ∈ wsL_law, w.before #[Value.ref b] s = true := fun w h => hts w (wsL_law_in w h)
  have hA : ∀ q : Nat, s.heap.size ≤ q → (fun q : Nat => s.heap.size ≤ q) q := fun _ h => h
  have hbA : ¬ (fun q : Nat => s.heap.size ≤ q) b := Nat.not_le.mpr hbl
  obtain ⟨r, e1, e2⟩ := a_find (n := 100000) (by decide) hI (xs (i + 1)) (xs (i + 2)) (xs (i + 3)) 
  refine lv_aload_n hx hb dL_law_372 rfl (lv_at hl 1 rfl) ?_
  refine gl_arg hx hb hX hbl hbA hS hLn hl 1 (by decide) (by omega) dL_law_373 dL_law_374 dL_law_375 dL_law_376 dL_law_377 ?_
  refine gl_arg hx hb hX hbl hbA hS hLn hl 2 (by decide) (by omega) dL_law_378 dL_law_379 dL_law_380 dL_law_381 dL_law_382 ?_
  refine gl_arg hx hb hX hbl hbA hS hLn hl 3 (by decide) (by omega) dL_law_383 dL_law_384 dL_law_385 dL_law_386 dL_law_387 ?_
  refine gc_i (ws := lX cA aB aP aT aM aN L bI pI pA tI tJ tP tO tR mI mJ mA vI vJ vA qI qJ ++ lM cA aR K rG rI rA rR) (wc := lX cA aB aP aT aM aN L bI pI pA tI tJ tP tO tR mI mJ mA vI vJ vA qI qJ) (wr := lM cA aR K rG rI rA rR) (ws' := lX cA aB aP aT aM aN L bI pI pA tI tJ tP tO tR mI mJ mA vI vJ vA qI qJ ++ lM cA aR K rG rI rA rR) (va_runV (As := [.int (xs (i + 1)), .int (xs (i + 2)), .int (xs (i + 3))]) (rest := []) ⟨hx, hb, hml, hown, hT⟩ (k_X4_find l D cA aB aP aT aM aN L H.size 100000 (xs (i + 1)) (xs (i + 2)) (xs (i + 3)) bI pI pA tI tJ tP tO tR mI mJ mA vI vJ vA qI qJ _ e1) (cwV 3 hT lg_4_find rfl rfl rfl (by decide +kernel) ⟨Nat.le_of_ble_eq_true rfl, Nat.le_of_ble_eq_true rfl⟩) (pre_V (ci := 4) (q0 := 0) (wr := lM cA aR K rG rI rA rR) (List.Perm.refl _) hK hP hD rfl rfl) rfl rfl hl.1 rfl (lv_room (Nat.le_of_ble_eq_true rfl)) dL_law_388 ⟨Nat.le_of_ble_eq_true rfl, Nat.le_of_ble_eq_true rfl⟩) (List.Perm.refl _) hP hD hS hA (List.Perm.refl _) (fun H locs hP hD hS => ?_)
  refine lv_aload_n hx hb dL_law_391 rfl (lv_at hl 2 rfl) ?_
  refine gl_arg hx hb hX hbl hbA hS hLn hl 1 (by decide) (by omega) dL_law_392 dL_law_393 dL_law_394 dL_law_395 dL_law_396 ?_
  refine gl_arg hx hb hX hbl hbA hS hLn hl 2 (by decide) (by omega) dL_law_397 dL_law_398 dL_law_399 dL_law_400 dL_law_401 ?_
  refine gl_arg hx hb hX hbl hbA hS hLn hl 3 (by decide) (by omega) dL_law_402 dL_law_403 dL_law_404 dL_law_405 dL_law_406 ?_
  refine gc_i (ws := lX cA aB aP aT aM aN L bI pI pA tI tJ tP tO tR mI mJ mA vI vJ vA qI qJ ++ lM cA aR K rG rI rA rR) (wc := lM cA aR K rG rI rA rR) (wr := lX cA aB aP aT aM aN L bI pI pA tI tJ tP tO tR mI mJ mA vI vJ vA qI qJ) (ws' := lX cA aB aP aT aM aN L bI pI pA tI tJ tP tO tR mI mJ mA vI vJ vA qI qJ ++ lM cA aR K rG rI rA rR) (va_runV (As := [.int (xs (i + 1)), .int (xs (i + 2)), .int (xs (i + 3))]) (rest := [.int r]) ⟨hx, hb, hml, hown, hT⟩ (k_X5_find l D cA aR K H.size 100000 (xs (i + 1)) (xs (i + 2)) (xs (i + 3)) rI rA rG rR _ e2) (cwV 3 hT lg_5_find rfl rfl rfl (by decide +kernel) ⟨Nat.le_of_ble_eq_true rfl, Nat.le_of_ble_eq_true rfl⟩) (pre_V (ci := 5) (q0 := 0) (wr := lX cA aB aP aT aM aN L bI pI pA tI tJ tP tO tR mI mJ mA vI vJ vA qI qJ) List.perm_append_comm hK hP hD rfl rfl) rfl rfl hl.1 rfl (lv_room (Nat.le_of_ble_eq_true rfl)) dL_law_407 ⟨Nat.le_of_ble_eq_true rfl, Nat.le_of_ble_eq_true rfl⟩) List.perm_append_comm hP hD hS hA List.perm_append_comm (fun H locs hP hD hS => ?_)
  refine lv_icmp_eq (tgt := 586) hx hb dL_law_410 (by decide) (fun c1 => ?_) (fun c1 => absurd rfl c1)
  exact kk bI pI pA tI tJ tP tO tR mI mJ mA vI vJ vA qI qJ rI rA rR H locs ls hI hP hD hS hl

set_option maxRecDepth 100000 in
set_option maxHeartbeats 8000000 in
theorem lw_run {p : Program} {l : Launch} {e : Env} {s : State} {m : MethodId} {below : List Frame} {meth : Method} {c : Code} {b Ln : Nat} {xs : Nat → Int32} (hLn : Ln ≤ 2560) (C0 : lw_At p s m meth c b Ln xs) {D : va_G} {cA : Nat → ClassId} (hK : CK D cA s) {aB aP aT aM aN aR : Nat → Nat} {L K : List Nat} {rG : Nat → Option Nat} {i : Nat} (hi : i + 5 ≤ Ln) (kk : AtP p l e s m below meth c b D cA aB aP aT aM aN aR L K rG 586 i) : AtP p l e s m below meth c b D cA aB aP aT aM aN aR L K rG 415 i := by
  intro bI pI pA tI tJ tP tO tR mI mJ mA vI vJ vA qI qJ rI rA rR H locs ls hI hP hD hS hl
  obtain ⟨hx, hb, hr, hml, hown, hts, hX, hbl, hlocks, hgv⟩ := C0
  have hT : ∀ w ∈ wsL_law, w.before #[Value.ref b] s = true := fun w h => hts w (wsL_law_in w h)
  have hA : ∀ q : Nat, s.heap.size ≤ q → (fun q : Nat => s.heap.size ≤ q) q := fun _ h => h
  have hbA : ¬ (fun q : Nat => s.heap.size ≤ q) b := Nat.not_le.mpr hbl
  obtain ⟨r, bI', vI', vJ', vA', rI', rA', e1, e2, hI'⟩ := a_run (n := 100000) (by decide) hI (xs (i + 1)) 
  refine lv_aload_n hx hb dL_law_415 rfl (lv_at hl 1 rfl) ?_
  refine gl_arg hx hb hX hbl hbA hS hLn hl 1 (by decide) (by omega) dL_law_416 dL_law_417 dL_law_418 dL_law_419 dL_law_420 ?_
  refine gc_i (ws := lX cA aB aP aT aM aN L bI pI pA tI tJ tP tO tR mI mJ mA vI vJ vA qI qJ ++ lM cA aR K rG rI rA rR) (wc := lX cA aB aP aT aM aN L bI pI pA tI tJ tP tO tR mI mJ mA vI vJ vA qI qJ) (wr := lM cA aR K rG rI rA rR) (ws' := lX cA aB aP aT aM aN L bI' pI pA tI tJ tP tO tR mI mJ mA vI' vJ' vA' qI qJ ++ lM cA aR K rG rI rA rR) (va_runV (As := [.int (xs (i + 1))]) (rest := []) ⟨hx, hb, hml, hown, hT⟩ (k_X4_run l D cA aB aP aT aM aN L H.size 100000 (xs (i + 1)) bI pI pA tI tJ tP tO tR mI mJ mA vI vJ vA qI qJ _ e1) (cwV 1 hT lg_4_run rfl rfl rfl (by decide +kernel) ⟨Nat.le_of_ble_eq_true rfl, Nat.le_of_ble_eq_true rfl⟩) (pre_V (ci := 4) (q0 := 0) (wr := lM cA aR K rG rI rA rR) (List.Perm.refl _) hK hP hD rfl rfl) rfl rfl hl.1 rfl (lv_room (Nat.le_of_ble_eq_true rfl)) dL_law_421 ⟨Nat.le_of_ble_eq_true rfl, Nat.le_of_ble_eq_true rfl⟩) (List.Perm.refl _) hP hD hS hA (List.Perm.refl _) (fun H locs hP hD hS => ?_)
  refine lv_aload_n hx hb dL_law_424 rfl (lv_at hl 2 rfl) ?_
  refine gl_arg hx hb hX hbl hbA hS hLn hl 1 (by decide) (by omega) dL_law_425 dL_law_426 dL_law_427 dL_law_428 dL_law_429 ?_
  refine gc_i (ws := lX cA aB aP aT aM aN L bI' pI pA tI tJ tP tO tR mI mJ mA vI' vJ' vA' qI qJ ++ lM cA aR K rG rI rA rR) (wc := lM cA aR K rG rI rA rR) (wr := lX cA aB aP aT aM aN L bI' pI pA tI tJ tP tO tR mI mJ mA vI' vJ' vA' qI qJ) (ws' := lX cA aB aP aT aM aN L bI' pI pA tI tJ tP tO tR mI mJ mA vI' vJ' vA' qI qJ ++ lM cA aR K rG rI' rA' rR) (va_runV (As := [.int (xs (i + 1))]) (rest := [.int r]) ⟨hx, hb, hml, hown, hT⟩ (k_X5_run l D cA aR K H.size 100000 (xs (i + 1)) rI rA rG rR _ e2) (cwV 1 hT lg_5_run rfl rfl rfl (by decide +kernel) ⟨Nat.le_of_ble_eq_true rfl, Nat.le_of_ble_eq_true rfl⟩) (pre_V (ci := 5) (q0 := 0) (wr := lX cA aB aP aT aM aN L bI' pI pA tI tJ tP tO tR mI mJ mA vI' vJ' vA' qI qJ) List.perm_append_comm hK hP hD rfl rfl) rfl rfl hl.1 rfl (lv_room (Nat.le_of_ble_eq_true rfl)) dL_law_430 ⟨Nat.le_of_ble_eq_true rfl, Nat.le_of_ble_eq_true rfl⟩) List.perm_append_comm hP hD hS hA List.perm_append_comm (fun H locs hP hD hS => ?_)
  refine lv_icmp_eq (tgt := 586) hx hb dL_law_433 (by decide) (fun c1 => ?_) (fun c1 => absurd rfl c1)
  exact kk bI' pI pA tI tJ tP tO tR mI mJ mA vI' vJ' vA' qI qJ rI' rA' rR H locs ls hI' hP hD hS hl

set_option maxRecDepth 100000 in
set_option maxHeartbeats 8000000 in
theorem lw_ran {p : Program} {l : Launch} {e : Env} {s : State} {m : MethodId} {below : List Frame} {meth : Method} {c : Code} {b Ln : Nat} {xs : Nat → Int32} (hLn : Ln ≤ 2560) (C0 : lw_At p s m meth c b Ln xs) {D : va_G} {cA : Nat → ClassId} (hK : CK D cA s) {aB aP aT aM aN aR : Nat → Nat} {L K : List Nat} {rG : Nat → Option Nat} {i : Nat} (hi : i + 5 ≤ Ln) (kk : AtP p l e s m below meth c b D cA aB aP aT aM aN aR L K rG 586 i) : AtP p l e s m below meth c b D cA aB aP aT aM aN aR L K rG 438 i := by
  intro bI pI pA tI tJ tP tO tR mI mJ mA vI vJ vA qI qJ rI rA rR H locs ls hI hP hD hS hl
  obtain ⟨hx, hb, hr, hml, hown, hts, hX, hbl, hlocks, hgv⟩ := C0
  have hT : ∀ w ∈ wsL_law, w.before #[Value.ref b] s = true := fun w h => hts w (wsL_law_in w h)
  have hA : ∀ q : Nat, s.heap.size ≤ q → (fun q : Nat => s.heap.size ≤ q) q := fun _ h => h
  have hbA : ¬ (fun q : Nat => s.heap.size ≤ q) b := Nat.not_le.mpr hbl
  obtain ⟨r, e1, e2⟩ := a_ran (n := 100000) (by decide) hI (xs (i + 1)) 
  refine lv_aload_n hx hb dL_law_438 rfl (lv_at hl 1 rfl) ?_
  refine gl_arg hx hb hX hbl hbA hS hLn hl 1 (by decide) (by omega) dL_law_439 dL_law_440 dL_law_441 dL_law_442 dL_law_443 ?_
  refine gc_i (ws := lX cA aB aP aT aM aN L bI pI pA tI tJ tP tO tR mI mJ mA vI vJ vA qI qJ ++ lM cA aR K rG rI rA rR) (wc := lX cA aB aP aT aM aN L bI pI pA tI tJ tP tO tR mI mJ mA vI vJ vA qI qJ) (wr := lM cA aR K rG rI rA rR) (ws' := lX cA aB aP aT aM aN L bI pI pA tI tJ tP tO tR mI mJ mA vI vJ vA qI qJ ++ lM cA aR K rG rI rA rR) (va_runV (As := [.int (xs (i + 1))]) (rest := []) ⟨hx, hb, hml, hown, hT⟩ (k_X4_ran l D cA aB aP aT aM aN L H.size 100000 (xs (i + 1)) bI pI pA tI tJ tP tO tR mI mJ mA vI vJ vA qI qJ _ e1) (cwV 1 hT lg_4_ran rfl rfl rfl (by decide +kernel) ⟨Nat.le_of_ble_eq_true rfl, Nat.le_of_ble_eq_true rfl⟩) (pre_V (ci := 4) (q0 := 0) (wr := lM cA aR K rG rI rA rR) (List.Perm.refl _) hK hP hD rfl rfl) rfl rfl hl.1 rfl (lv_room (Nat.le_of_ble_eq_true rfl)) dL_law_444 ⟨Nat.le_of_ble_eq_true rfl, Nat.le_of_ble_eq_true rfl⟩) (List.Perm.refl _) hP hD hS hA (List.Perm.refl _) (fun H locs hP hD hS => ?_)
  refine lv_aload_n hx hb dL_law_447 rfl (lv_at hl 2 rfl) ?_
  refine gl_arg hx hb hX hbl hbA hS hLn hl 1 (by decide) (by omega) dL_law_448 dL_law_449 dL_law_450 dL_law_451 dL_law_452 ?_
  refine gc_i (ws := lX cA aB aP aT aM aN L bI pI pA tI tJ tP tO tR mI mJ mA vI vJ vA qI qJ ++ lM cA aR K rG rI rA rR) (wc := lM cA aR K rG rI rA rR) (wr := lX cA aB aP aT aM aN L bI pI pA tI tJ tP tO tR mI mJ mA vI vJ vA qI qJ) (ws' := lX cA aB aP aT aM aN L bI pI pA tI tJ tP tO tR mI mJ mA vI vJ vA qI qJ ++ lM cA aR K rG rI rA rR) (va_runV (As := [.int (xs (i + 1))]) (rest := [.int r]) ⟨hx, hb, hml, hown, hT⟩ (k_X5_ran l D cA aR K H.size  (xs (i + 1)) rI rA rG rR _ e2) (cwV 1 hT lg_5_ran rfl rfl rfl (by decide +kernel) ⟨Nat.le_of_ble_eq_true rfl, Nat.le_of_ble_eq_true rfl⟩) (pre_V (ci := 5) (q0 := 0) (wr := lX cA aB aP aT aM aN L bI pI pA tI tJ tP tO tR mI mJ mA vI vJ vA qI qJ) List.perm_append_comm hK hP hD rfl rfl) rfl rfl hl.1 rfl (lv_room (Nat.le_of_ble_eq_true rfl)) dL_law_453 ⟨Nat.le_of_ble_eq_true rfl, Nat.le_of_ble_eq_true rfl⟩) List.perm_append_comm hP hD hS hA List.perm_append_comm (fun H locs hP hD hS => ?_)
  refine lv_icmp_eq (tgt := 586) hx hb dL_law_456 (by decide) (fun c1 => ?_) (fun c1 => absurd rfl c1)
  exact kk bI pI pA tI tJ tP tO tR mI mJ mA vI vJ vA qI qJ rI rA rR H locs ls hI hP hD hS hl

set_option maxRecDepth 100000 in
set_option maxHeartbeats 8000000 in
theorem lw_register {p : Program} {l : Launch} {e : Env} {s : State} {m : MethodId} {below : List Frame} {meth : Method} {c : Code} {b Ln : Nat} {xs : Nat → Int32} (hLn : Ln ≤ 2560) (C0 : lw_At p s m meth c b Ln xs) {D : va_G} {cA : Nat → ClassId} (hK : CK D cA s) {aB aP aT aM aN aR : Nat → Nat} {L K : List Nat} {rG : Nat → Option Nat} {i : Nat} (hi : i + 5 ≤ Ln) (kk : AtP p l e s m below meth c b D cA aB aP aT aM aN aR L K rG 586 i) : AtP p l e s m below meth c b D cA aB aP aT aM aN aR L K rG 461 i := by
  intro bI pI pA tI tJ tP tO tR mI mJ mA vI vJ vA qI qJ rI rA rR H locs ls hI hP hD hS hl
  obtain ⟨hx, hb, hr, hml, hown, hts, hX, hbl, hlocks, hgv⟩ := C0
  have hT : ∀ w ∈ wsL_law, w.before #[Value.ref b] s = true := fun w h => hts w (wsL_law_in w h)
  have hA : ∀ q : Nat, s.heap.size ≤ q → (fun q : Nat => s.heap.size ≤ q) q := fun _ h => h
  have hbA : ¬ (fun q : Nat => s.heap.size ≤ q) b := Nat.not_le.mpr hbl
  obtain ⟨r, e1, e2⟩ := a_register  hI (xs (i + 1)) 
  refine lv_aload_n hx hb dL_law_461 rfl (lv_at hl 1 rfl) ?_
  refine gl_arg hx hb hX hbl hbA hS hLn hl 1 (by decide) (by omega) dL_law_462 dL_law_463 dL_law_464 dL_law_465 dL_law_466 ?_
  refine gc_i (ws := lX cA aB aP aT aM aN L bI pI pA tI tJ tP tO tR mI mJ mA vI vJ vA qI qJ ++ lM cA aR K rG rI rA rR) (wc := lX cA aB aP aT aM aN L bI pI pA tI tJ tP tO tR mI mJ mA vI vJ vA qI qJ) (wr := lM cA aR K rG rI rA rR) (ws' := lX cA aB aP aT aM aN L bI pI pA tI tJ tP tO tR mI mJ mA vI vJ vA qI qJ ++ lM cA aR K rG rI rA rR) (va_runV (As := [.int (xs (i + 1))]) (rest := []) ⟨hx, hb, hml, hown, hT⟩ (k_X4_register l D cA aB aP aT aM aN L H.size  (xs (i + 1)) bI pI pA tI tJ tP tO tR mI mJ mA vI vJ vA qI qJ _ e1) (cwV 1 hT lg_4_register rfl rfl rfl (by decide +kernel) ⟨Nat.le_of_ble_eq_true rfl, Nat.le_of_ble_eq_true rfl⟩) (pre_V (ci := 4) (q0 := 0) (wr := lM cA aR K rG rI rA rR) (List.Perm.refl _) hK hP hD rfl rfl) rfl rfl hl.1 rfl (lv_room (Nat.le_of_ble_eq_true rfl)) dL_law_467 ⟨Nat.le_of_ble_eq_true rfl, Nat.le_of_ble_eq_true rfl⟩) (List.Perm.refl _) hP hD hS hA (List.Perm.refl _) (fun H locs hP hD hS => ?_)
  refine lv_aload_n hx hb dL_law_470 rfl (lv_at hl 2 rfl) ?_
  refine gl_arg hx hb hX hbl hbA hS hLn hl 1 (by decide) (by omega) dL_law_471 dL_law_472 dL_law_473 dL_law_474 dL_law_475 ?_
  refine gc_i (ws := lX cA aB aP aT aM aN L bI pI pA tI tJ tP tO tR mI mJ mA vI vJ vA qI qJ ++ lM cA aR K rG rI rA rR) (wc := lM cA aR K rG rI rA rR) (wr := lX cA aB aP aT aM aN L bI pI pA tI tJ tP tO tR mI mJ mA vI vJ vA qI qJ) (ws' := lX cA aB aP aT aM aN L bI pI pA tI tJ tP tO tR mI mJ mA vI vJ vA qI qJ ++ lM cA aR K rG rI rA rR) (va_runV (As := [.int (xs (i + 1))]) (rest := [.int r]) ⟨hx, hb, hml, hown, hT⟩ (k_X5_register l D cA aR K H.size  (xs (i + 1)) rI rA rG rR _ e2) (cwV 1 hT lg_5_register rfl rfl rfl (by decide +kernel) ⟨Nat.le_of_ble_eq_true rfl, Nat.le_of_ble_eq_true rfl⟩) (pre_V (ci := 5) (q0 := 0) (wr := lX cA aB aP aT aM aN L bI pI pA tI tJ tP tO tR mI mJ mA vI vJ vA qI qJ) List.perm_append_comm hK hP hD rfl rfl) rfl rfl hl.1 rfl (lv_room (Nat.le_of_ble_eq_true rfl)) dL_law_476 ⟨Nat.le_of_ble_eq_true rfl, Nat.le_of_ble_eq_true rfl⟩) List.perm_append_comm hP hD hS hA List.perm_append_comm (fun H locs hP hD hS => ?_)
  refine lv_icmp_eq (tgt := 586) hx hb dL_law_479 (by decide) (fun c1 => ?_) (fun c1 => absurd rfl c1)
  exact kk bI pI pA tI tJ tP tO tR mI mJ mA vI vJ vA qI qJ rI rA rR H locs ls hI hP hD hS hl

set_option maxRecDepth 100000 in
set_option maxHeartbeats 8000000 in
theorem lw_cell {p : Program} {l : Launch} {e : Env} {s : State} {m : MethodId} {below : List Frame} {meth : Method} {c : Code} {b Ln : Nat} {xs : Nat → Int32} (hLn : Ln ≤ 2560) (C0 : lw_At p s m meth c b Ln xs) {D : va_G} {cA : Nat → ClassId} (hK : CK D cA s) {aB aP aT aM aN aR : Nat → Nat} {L K : List Nat} {rG : Nat → Option Nat} {i : Nat} (hi : i + 5 ≤ Ln) (kk : AtP p l e s m below meth c b D cA aB aP aT aM aN aR L K rG 586 i) : AtP p l e s m below meth c b D cA aB aP aT aM aN aR L K rG 484 i := by
  intro bI pI pA tI tJ tP tO tR mI mJ mA vI vJ vA qI qJ rI rA rR H locs ls hI hP hD hS hl
  obtain ⟨hx, hb, hr, hml, hown, hts, hX, hbl, hlocks, hgv⟩ := C0
  have hT : ∀ w ∈ wsL_law, w.before #[Value.ref b] s = true := fun w h => hts w (wsL_law_in w h)
  have hA : ∀ q : Nat, s.heap.size ≤ q → (fun q : Nat => s.heap.size ≤ q) q := fun _ h => h
  have hbA : ¬ (fun q : Nat => s.heap.size ≤ q) b := Nat.not_le.mpr hbl
  obtain ⟨r, e1, e2⟩ := a_cell  hI (xs (i + 1)) 
  refine lv_aload_n hx hb dL_law_484 rfl (lv_at hl 1 rfl) ?_
  refine gl_arg hx hb hX hbl hbA hS hLn hl 1 (by decide) (by omega) dL_law_485 dL_law_486 dL_law_487 dL_law_488 dL_law_489 ?_
  refine gc_i (ws := lX cA aB aP aT aM aN L bI pI pA tI tJ tP tO tR mI mJ mA vI vJ vA qI qJ ++ lM cA aR K rG rI rA rR) (wc := lX cA aB aP aT aM aN L bI pI pA tI tJ tP tO tR mI mJ mA vI vJ vA qI qJ) (wr := lM cA aR K rG rI rA rR) (ws' := lX cA aB aP aT aM aN L bI pI pA tI tJ tP tO tR mI mJ mA vI vJ vA qI qJ ++ lM cA aR K rG rI rA rR) (va_runV (As := [.int (xs (i + 1))]) (rest := []) ⟨hx, hb, hml, hown, hT⟩ (k_X4_cell l D cA aB aP aT aM aN L H.size  (xs (i + 1)) bI pI pA tI tJ tP tO tR mI mJ mA vI vJ vA qI qJ _ e1) (cwV 1 hT lg_4_cell rfl rfl rfl (by decide +kernel) ⟨Nat.le_of_ble_eq_true rfl, Nat.le_of_ble_eq_true rfl⟩) (pre_V (ci := 4) (q0 := 0) (wr := lM cA aR K rG rI rA rR) (List.Perm.refl _) hK hP hD rfl rfl) rfl rfl hl.1 rfl (lv_room (Nat.le_of_ble_eq_true rfl)) dL_law_490 ⟨Nat.le_of_ble_eq_true rfl, Nat.le_of_ble_eq_true rfl⟩) (List.Perm.refl _) hP hD hS hA (List.Perm.refl _) (fun H locs hP hD hS => ?_)
  refine lv_aload_n hx hb dL_law_493 rfl (lv_at hl 2 rfl) ?_
  refine gl_arg hx hb hX hbl hbA hS hLn hl 1 (by decide) (by omega) dL_law_494 dL_law_495 dL_law_496 dL_law_497 dL_law_498 ?_
  refine gc_i (ws := lX cA aB aP aT aM aN L bI pI pA tI tJ tP tO tR mI mJ mA vI vJ vA qI qJ ++ lM cA aR K rG rI rA rR) (wc := lM cA aR K rG rI rA rR) (wr := lX cA aB aP aT aM aN L bI pI pA tI tJ tP tO tR mI mJ mA vI vJ vA qI qJ) (ws' := lX cA aB aP aT aM aN L bI pI pA tI tJ tP tO tR mI mJ mA vI vJ vA qI qJ ++ lM cA aR K rG rI rA rR) (va_runV (As := [.int (xs (i + 1))]) (rest := [.int r]) ⟨hx, hb, hml, hown, hT⟩ (k_X5_cell l D cA aR K H.size  (xs (i + 1)) rI rA rG rR _ e2) (cwV 1 hT lg_5_cell rfl rfl rfl (by decide +kernel) ⟨Nat.le_of_ble_eq_true rfl, Nat.le_of_ble_eq_true rfl⟩) (pre_V (ci := 5) (q0 := 0) (wr := lX cA aB aP aT aM aN L bI pI pA tI tJ tP tO tR mI mJ mA vI vJ vA qI qJ) List.perm_append_comm hK hP hD rfl rfl) rfl rfl hl.1 rfl (lv_room (Nat.le_of_ble_eq_true rfl)) dL_law_499 ⟨Nat.le_of_ble_eq_true rfl, Nat.le_of_ble_eq_true rfl⟩) List.perm_append_comm hP hD hS hA List.perm_append_comm (fun H locs hP hD hS => ?_)
  refine lv_icmp_eq (tgt := 586) hx hb dL_law_502 (by decide) (fun c1 => ?_) (fun c1 => absurd rfl c1)
  exact kk bI pI pA tI tJ tP tO tR mI mJ mA vI vJ vA qI qJ rI rA rR H locs ls hI hP hD hS hl

set_option maxRecDepth 100000 in
set_option maxHeartbeats 8000000 in
theorem lw_failure {p : Program} {l : Launch} {e : Env} {s : State} {m : MethodId} {below : List Frame} {meth : Method} {c : Code} {b Ln : Nat} {xs : Nat → Int32} (hLn : Ln ≤ 2560) (C0 : lw_At p s m meth c b Ln xs) {D : va_G} {cA : Nat → ClassId} (hK : CK D cA s) {aB aP aT aM aN aR : Nat → Nat} {L K : List Nat} {rG : Nat → Option Nat} {i : Nat} (hi : i + 5 ≤ Ln) (kk : AtP p l e s m below meth c b D cA aB aP aT aM aN aR L K rG 586 i) : AtP p l e s m below meth c b D cA aB aP aT aM aN aR L K rG 507 i := by
  intro bI pI pA tI tJ tP tO tR mI mJ mA vI vJ vA qI qJ rI rA rR H locs ls hI hP hD hS hl
  obtain ⟨hx, hb, hr, hml, hown, hts, hX, hbl, hlocks, hgv⟩ := C0
  have hT : ∀ w ∈ wsL_law, w.before #[Value.ref b] s = true := fun w h => hts w (wsL_law_in w h)
  have hA : ∀ q : Nat, s.heap.size ≤ q → (fun q : Nat => s.heap.size ≤ q) q := fun _ h => h
  have hbA : ¬ (fun q : Nat => s.heap.size ≤ q) b := Nat.not_le.mpr hbl
  obtain ⟨r, e1, e2⟩ := a_failure (n := 100000) (by decide) hI (xs (i + 1)) (xs (i + 2)) 
  refine lv_aload_n hx hb dL_law_507 rfl (lv_at hl 1 rfl) ?_
  refine gl_arg hx hb hX hbl hbA hS hLn hl 1 (by decide) (by omega) dL_law_508 dL_law_509 dL_law_510 dL_law_511 dL_law_512 ?_
  refine gl_arg hx hb hX hbl hbA hS hLn hl 2 (by decide) (by omega) dL_law_513 dL_law_514 dL_law_515 dL_law_516 dL_law_517 ?_
  refine gc_i (ws := lX cA aB aP aT aM aN L bI pI pA tI tJ tP tO tR mI mJ mA vI vJ vA qI qJ ++ lM cA aR K rG rI rA rR) (wc := lX cA aB aP aT aM aN L bI pI pA tI tJ tP tO tR mI mJ mA vI vJ vA qI qJ) (wr := lM cA aR K rG rI rA rR) (ws' := lX cA aB aP aT aM aN L bI pI pA tI tJ tP tO tR mI mJ mA vI vJ vA qI qJ ++ lM cA aR K rG rI rA rR) (va_runV (As := [.int (xs (i + 1)), .int (xs (i + 2))]) (rest := []) ⟨hx, hb, hml, hown, hT⟩ (k_X4_failure l D cA aB aP aT aM aN L H.size 100000 (xs (i + 1)) (xs (i + 2)) bI pI pA tI tJ tP tO tR mI mJ mA vI vJ vA qI qJ _ e1) (cwV 2 hT lg_4_failure rfl rfl rfl (by decide +kernel) ⟨Nat.le_of_ble_eq_true rfl, Nat.le_of_ble_eq_true rfl⟩) (pre_V (ci := 4) (q0 := 0) (wr := lM cA aR K rG rI rA rR) (List.Perm.refl _) hK hP hD rfl rfl) rfl rfl hl.1 rfl (lv_room (Nat.le_of_ble_eq_true rfl)) dL_law_518 ⟨Nat.le_of_ble_eq_true rfl, Nat.le_of_ble_eq_true rfl⟩) (List.Perm.refl _) hP hD hS hA (List.Perm.refl _) (fun H locs hP hD hS => ?_)
  refine lv_aload_n hx hb dL_law_521 rfl (lv_at hl 2 rfl) ?_
  refine gl_arg hx hb hX hbl hbA hS hLn hl 1 (by decide) (by omega) dL_law_522 dL_law_523 dL_law_524 dL_law_525 dL_law_526 ?_
  refine gl_arg hx hb hX hbl hbA hS hLn hl 2 (by decide) (by omega) dL_law_527 dL_law_528 dL_law_529 dL_law_530 dL_law_531 ?_
  refine gc_i (ws := lX cA aB aP aT aM aN L bI pI pA tI tJ tP tO tR mI mJ mA vI vJ vA qI qJ ++ lM cA aR K rG rI rA rR) (wc := lM cA aR K rG rI rA rR) (wr := lX cA aB aP aT aM aN L bI pI pA tI tJ tP tO tR mI mJ mA vI vJ vA qI qJ) (ws' := lX cA aB aP aT aM aN L bI pI pA tI tJ tP tO tR mI mJ mA vI vJ vA qI qJ ++ lM cA aR K rG rI rA rR) (va_runV (As := [.int (xs (i + 1)), .int (xs (i + 2))]) (rest := [.int r]) ⟨hx, hb, hml, hown, hT⟩ (k_X5_failure l D cA aR K H.size 100000 (xs (i + 1)) (xs (i + 2)) rI rA rG rR _ e2) (cwV 2 hT lg_5_failure rfl rfl rfl (by decide +kernel) ⟨Nat.le_of_ble_eq_true rfl, Nat.le_of_ble_eq_true rfl⟩) (pre_V (ci := 5) (q0 := 0) (wr := lX cA aB aP aT aM aN L bI pI pA tI tJ tP tO tR mI mJ mA vI vJ vA qI qJ) List.perm_append_comm hK hP hD rfl rfl) rfl rfl hl.1 rfl (lv_room (Nat.le_of_ble_eq_true rfl)) dL_law_532 ⟨Nat.le_of_ble_eq_true rfl, Nat.le_of_ble_eq_true rfl⟩) List.perm_append_comm hP hD hS hA List.perm_append_comm (fun H locs hP hD hS => ?_)
  refine lv_icmp_eq (tgt := 586) hx hb dL_law_535 (by decide) (fun c1 => ?_) (fun c1 => absurd rfl c1)
  exact kk bI pI pA tI tJ tP tO tR mI mJ mA vI vJ vA qI qJ rI rA rR H locs ls hI hP hD hS hl

set_option maxRecDepth 100000 in
set_option maxHeartbeats 8000000 in
theorem lw_covered {p : Program} {l : Launch} {e : Env} {s : State} {m : MethodId} {below : List Frame} {meth : Method} {c : Code} {b Ln : Nat} {xs : Nat → Int32} (hLn : Ln ≤ 2560) (C0 : lw_At p s m meth c b Ln xs) {D : va_G} {cA : Nat → ClassId} (hK : CK D cA s) {aB aP aT aM aN aR : Nat → Nat} {L K : List Nat} {rG : Nat → Option Nat} {i : Nat} (hi : i + 5 ≤ Ln) (kk : AtP p l e s m below meth c b D cA aB aP aT aM aN aR L K rG 586 i) : AtP p l e s m below meth c b D cA aB aP aT aM aN aR L K rG 540 i := by
  intro bI pI pA tI tJ tP tO tR mI mJ mA vI vJ vA qI qJ rI rA rR H locs ls hI hP hD hS hl
  obtain ⟨hx, hb, hr, hml, hown, hts, hX, hbl, hlocks, hgv⟩ := C0
  have hT : ∀ w ∈ wsL_law, w.before #[Value.ref b] s = true := fun w h => hts w (wsL_law_in w h)
  have hA : ∀ q : Nat, s.heap.size ≤ q → (fun q : Nat => s.heap.size ≤ q) q := fun _ h => h
  have hbA : ¬ (fun q : Nat => s.heap.size ≤ q) b := Nat.not_le.mpr hbl
  obtain ⟨r, e1, e2⟩ := a_covered  hI (xs (i + 1)) 
  refine lv_aload_n hx hb dL_law_540 rfl (lv_at hl 1 rfl) ?_
  refine gl_arg hx hb hX hbl hbA hS hLn hl 1 (by decide) (by omega) dL_law_541 dL_law_542 dL_law_543 dL_law_544 dL_law_545 ?_
  refine gc_i (ws := lX cA aB aP aT aM aN L bI pI pA tI tJ tP tO tR mI mJ mA vI vJ vA qI qJ ++ lM cA aR K rG rI rA rR) (wc := lX cA aB aP aT aM aN L bI pI pA tI tJ tP tO tR mI mJ mA vI vJ vA qI qJ) (wr := lM cA aR K rG rI rA rR) (ws' := lX cA aB aP aT aM aN L bI pI pA tI tJ tP tO tR mI mJ mA vI vJ vA qI qJ ++ lM cA aR K rG rI rA rR) (va_runV (As := [.int (xs (i + 1))]) (rest := []) ⟨hx, hb, hml, hown, hT⟩ (k_X4_covered l D cA aB aP aT aM aN L H.size  (xs (i + 1)) bI pI pA tI tJ tP tO tR mI mJ mA vI vJ vA qI qJ _ e1) (cwV 1 hT lg_4_covered rfl rfl rfl (by decide +kernel) ⟨Nat.le_of_ble_eq_true rfl, Nat.le_of_ble_eq_true rfl⟩) (pre_V (ci := 4) (q0 := 0) (wr := lM cA aR K rG rI rA rR) (List.Perm.refl _) hK hP hD rfl rfl) rfl rfl hl.1 rfl (lv_room (Nat.le_of_ble_eq_true rfl)) dL_law_546 ⟨Nat.le_of_ble_eq_true rfl, Nat.le_of_ble_eq_true rfl⟩) (List.Perm.refl _) hP hD hS hA (List.Perm.refl _) (fun H locs hP hD hS => ?_)
  refine lv_aload_n hx hb dL_law_549 rfl (lv_at hl 2 rfl) ?_
  refine gl_arg hx hb hX hbl hbA hS hLn hl 1 (by decide) (by omega) dL_law_550 dL_law_551 dL_law_552 dL_law_553 dL_law_554 ?_
  refine gc_i (ws := lX cA aB aP aT aM aN L bI pI pA tI tJ tP tO tR mI mJ mA vI vJ vA qI qJ ++ lM cA aR K rG rI rA rR) (wc := lM cA aR K rG rI rA rR) (wr := lX cA aB aP aT aM aN L bI pI pA tI tJ tP tO tR mI mJ mA vI vJ vA qI qJ) (ws' := lX cA aB aP aT aM aN L bI pI pA tI tJ tP tO tR mI mJ mA vI vJ vA qI qJ ++ lM cA aR K rG rI rA rR) (va_runV (As := [.int (xs (i + 1))]) (rest := [.int r]) ⟨hx, hb, hml, hown, hT⟩ (k_X5_covered l D cA aR K H.size  (xs (i + 1)) rI rA rG rR _ e2) (cwV 1 hT lg_5_covered rfl rfl rfl (by decide +kernel) ⟨Nat.le_of_ble_eq_true rfl, Nat.le_of_ble_eq_true rfl⟩) (pre_V (ci := 5) (q0 := 0) (wr := lX cA aB aP aT aM aN L bI pI pA tI tJ tP tO tR mI mJ mA vI vJ vA qI qJ) List.perm_append_comm hK hP hD rfl rfl) rfl rfl hl.1 rfl (lv_room (Nat.le_of_ble_eq_true rfl)) dL_law_555 ⟨Nat.le_of_ble_eq_true rfl, Nat.le_of_ble_eq_true rfl⟩) List.perm_append_comm hP hD hS hA List.perm_append_comm (fun H locs hP hD hS => ?_)
  refine lv_icmp_eq (tgt := 586) hx hb dL_law_558 (by decide) (fun c1 => ?_) (fun c1 => absurd rfl c1)
  exact kk bI pI pA tI tJ tP tO tR mI mJ mA vI vJ vA qI qJ rI rA rR H locs ls hI hP hD hS hl

set_option maxRecDepth 100000 in
set_option maxHeartbeats 8000000 in
theorem lw_count {p : Program} {l : Launch} {e : Env} {s : State} {m : MethodId} {below : List Frame} {meth : Method} {c : Code} {b Ln : Nat} {xs : Nat → Int32} (hLn : Ln ≤ 2560) (C0 : lw_At p s m meth c b Ln xs) {D : va_G} {cA : Nat → ClassId} (hK : CK D cA s) {aB aP aT aM aN aR : Nat → Nat} {L K : List Nat} {rG : Nat → Option Nat} {i : Nat} (hi : i + 5 ≤ Ln) (kk : AtP p l e s m below meth c b D cA aB aP aT aM aN aR L K rG 586 i) : AtP p l e s m below meth c b D cA aB aP aT aM aN aR L K rG 563 i := by
  intro bI pI pA tI tJ tP tO tR mI mJ mA vI vJ vA qI qJ rI rA rR H locs ls hI hP hD hS hl
  obtain ⟨hx, hb, hr, hml, hown, hts, hX, hbl, hlocks, hgv⟩ := C0
  have hT : ∀ w ∈ wsL_law, w.before #[Value.ref b] s = true := fun w h => hts w (wsL_law_in w h)
  have hA : ∀ q : Nat, s.heap.size ≤ q → (fun q : Nat => s.heap.size ≤ q) q := fun _ h => h
  have hbA : ¬ (fun q : Nat => s.heap.size ≤ q) b := Nat.not_le.mpr hbl
  obtain ⟨r, e1, e2⟩ := a_count (n := 100000) (by decide) hI (xs (i + 1)) 
  refine lv_aload_n hx hb dL_law_563 rfl (lv_at hl 1 rfl) ?_
  refine gl_arg hx hb hX hbl hbA hS hLn hl 1 (by decide) (by omega) dL_law_564 dL_law_565 dL_law_566 dL_law_567 dL_law_568 ?_
  refine gc_i (ws := lX cA aB aP aT aM aN L bI pI pA tI tJ tP tO tR mI mJ mA vI vJ vA qI qJ ++ lM cA aR K rG rI rA rR) (wc := lX cA aB aP aT aM aN L bI pI pA tI tJ tP tO tR mI mJ mA vI vJ vA qI qJ) (wr := lM cA aR K rG rI rA rR) (ws' := lX cA aB aP aT aM aN L bI pI pA tI tJ tP tO tR mI mJ mA vI vJ vA qI qJ ++ lM cA aR K rG rI rA rR) (va_runV (As := [.int (xs (i + 1))]) (rest := []) ⟨hx, hb, hml, hown, hT⟩ (k_X4_count l D cA aB aP aT aM aN L H.size  (xs (i + 1)) bI pI pA tI tJ tP tO tR mI mJ mA vI vJ vA qI qJ _ e1) (cwV 1 hT lg_4_count rfl rfl rfl (by decide +kernel) ⟨Nat.le_of_ble_eq_true rfl, Nat.le_of_ble_eq_true rfl⟩) (pre_V (ci := 4) (q0 := 0) (wr := lM cA aR K rG rI rA rR) (List.Perm.refl _) hK hP hD rfl rfl) rfl rfl hl.1 rfl (lv_room (Nat.le_of_ble_eq_true rfl)) dL_law_569 ⟨Nat.le_of_ble_eq_true rfl, Nat.le_of_ble_eq_true rfl⟩) (List.Perm.refl _) hP hD hS hA (List.Perm.refl _) (fun H locs hP hD hS => ?_)
  refine lv_aload_n hx hb dL_law_572 rfl (lv_at hl 2 rfl) ?_
  refine gl_arg hx hb hX hbl hbA hS hLn hl 1 (by decide) (by omega) dL_law_573 dL_law_574 dL_law_575 dL_law_576 dL_law_577 ?_
  refine gc_i (ws := lX cA aB aP aT aM aN L bI pI pA tI tJ tP tO tR mI mJ mA vI vJ vA qI qJ ++ lM cA aR K rG rI rA rR) (wc := lM cA aR K rG rI rA rR) (wr := lX cA aB aP aT aM aN L bI pI pA tI tJ tP tO tR mI mJ mA vI vJ vA qI qJ) (ws' := lX cA aB aP aT aM aN L bI pI pA tI tJ tP tO tR mI mJ mA vI vJ vA qI qJ ++ lM cA aR K rG rI rA rR) (va_runV (As := [.int (xs (i + 1))]) (rest := [.int r]) ⟨hx, hb, hml, hown, hT⟩ (k_X5_count l D cA aR K H.size 100000 (xs (i + 1)) rI rA rG rR _ e2) (cwV 1 hT lg_5_count rfl rfl rfl (by decide +kernel) ⟨Nat.le_of_ble_eq_true rfl, Nat.le_of_ble_eq_true rfl⟩) (pre_V (ci := 5) (q0 := 0) (wr := lX cA aB aP aT aM aN L bI pI pA tI tJ tP tO tR mI mJ mA vI vJ vA qI qJ) List.perm_append_comm hK hP hD rfl rfl) rfl rfl hl.1 rfl (lv_room (Nat.le_of_ble_eq_true rfl)) dL_law_578 ⟨Nat.le_of_ble_eq_true rfl, Nat.le_of_ble_eq_true rfl⟩) List.perm_append_comm hP hD hS hA List.perm_append_comm (fun H locs hP hD hS => ?_)
  refine lv_icmp_eq (tgt := 586) hx hb dL_law_581 (by decide) (fun c1 => ?_) (fun c1 => absurd rfl c1)
  exact kk bI pI pA tI tJ tP tO tR mI mJ mA vI vJ vA qI qJ rI rA rR H locs ls hI hP hD hS hl
