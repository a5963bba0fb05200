set_option maxHeartbeats 4000000 in
set_option maxRecDepth 20000 in
theorem law_k0 {p : Program} {l : Launch} {e : Env} {s : State} {m : MethodId} {below : List Frame} {meth : Method} {c : Code} {b Ln x y i : Nat} {xs : Nat → Int32} {E : EV} {M : Nat → Nat} {H : Heap} {locs : List Loc} {ls : Array Slot} (hx : p.tables.exec = Jvm.exec) (hb : c.code = code) (hml : c.maxLocals = 4) (hown : s.vm.findClass R_law = some m.cls) (hu : ∀ w ∈ uw, w.before #[Value.ref b] s = true) (hE : evK E s) (hZ : evZ E (fun q => s.heap.size ≤ q) s s.heap) (hX : va_X b Ln xs s s.heap) (hbl : b < s.heap.size) (hLn : Ln ≤ 2560) (h5 : 5 * i + 5 ≤ Ln) (ih : lwIH p l e s m below meth c b x y E M (i + 1)) (hLI : LI E s.heap.size x y M H) (hS : va_S (fun q => s.heap.size ≤ q) s.heap H locs) (hl : lv_has ls 4 [(0, .ref b), (1, .ref x), (2, .ref y), (3, .int (nI (5 * i)))]) : W p l e room_1 s m #[Value.ref b] below meth c H locs (300 + 3 * i) (30000 + 500 * i) (lw_Z below #[Value.ref b] s) (F0 m 148 ls []) := by
  have hbA : ¬ s.heap.size ≤ b := by omega
  obtain ⟨σ, L, hC, hM, hV, hx0, hy0, hMn⟩ := hLI
  subst hx0
  subst hy0
  obtain ⟨hI, hL, hK, hJ, hZ_, hQ_, hKK, hO_, hD_, hF_, hW_, hN_, hB_⟩ := id hV
  have hr1 : ∀ q, H.size ≤ q → reg1 s.heap.size M q := fun q hq => ⟨Nat.le_trans hS.1 hq, fun t ht z => by have := md_lt hM ht; omega⟩
  refine lv_aload_n hx hb dL_law_148 rfl (lv_at hl 1 rfl) ?_
  refine lv_aload_n hx hb dL_law_149 rfl (lv_at hl 0 rfl) ?_
  refine lv_iload_n hx hb dL_law_150 rfl (lv_at hl 3 rfl) ?_
  refine lv_iconst (v := 1) hx hb dL_law_151 (by decide) ?_
  refine lv_iadd hx hb dL_law_152 ?_
  rw [show nI (5 * i) + 1 = nI (5 * i + 1) from nI_add (5 * i) 1]
  refine va_sld hx hb hX hbl hbA hS (vp_in_nI (N := Ln) (by omega) (by omega)) dL_law_153 ?_
  rw [nI_clamp (n := 5 * i + 1) (by omega)]
  refine lv_aload_n hx hb dL_law_154 rfl (lv_at hl 0 rfl) ?_
  refine lv_iload_n hx hb dL_law_155 rfl (lv_at hl 3 rfl) ?_
  refine lv_iconst (v := 2) hx hb dL_law_156 (by decide) ?_
  refine lv_iadd hx hb dL_law_157 ?_
  rw [show nI (5 * i) + 2 = nI (5 * i + 2) from nI_add (5 * i) 2]
  refine va_sld hx hb hX hbl hbA hS (vp_in_nI (N := Ln) (by omega) (by omega)) dL_law_158 ?_
  rw [nI_clamp (n := 5 * i + 2) (by omega)]
  refine lv_aload_n hx hb dL_law_159 rfl (lv_at hl 0 rfl) ?_
  refine lv_iload_n hx hb dL_law_160 rfl (lv_at hl 3 rfl) ?_
  refine lv_iconst (v := 3) hx hb dL_law_161 (by decide) ?_
  refine lv_iadd hx hb dL_law_162 ?_
  rw [show nI (5 * i) + 3 = nI (5 * i + 3) from nI_add (5 * i) 3]
  refine va_sld hx hb hX hbl hbA hS (vp_in_nI (N := Ln) (by omega) (by omega)) dL_law_163 ?_
  rw [nI_clamp (n := 5 * i + 3) (by omega)]
  refine lv_aload_n hx hb dL_law_164 rfl (lv_at hl 0 rfl) ?_
  refine lv_iload_n hx hb dL_law_165 rfl (lv_at hl 3 rfl) ?_
  refine lv_iconst (v := 4) hx hb dL_law_166 (by decide) ?_
  refine lv_iadd hx hb dL_law_167 ?_
  rw [show nI (5 * i) + 4 = nI (5 * i + 4) from nI_add (5 * i) 4]
  refine va_sld hx hb hX hbl hbA hS (vp_in_nI (N := Ln) (by omega) (by omega)) dL_law_168 ?_
  rw [nI_clamp (n := 5 * i + 4) (by omega)]
  refine ct_V (As := [.int (xs (5 * i + 1)), .int (xs (5 * i + 2)), .int (xs (5 * i + 3)), .int (xs (5 * i + 4))]) (rest := []) hx hb hml hown hu hE hZ hS (fun _ h => h.1) hr1 (y_law l E (reg1 s.heap.size M) σ L (xs (5 * i + 1)) (xs (5 * i + 2)) (xs (5 * i + 3)) (xs (5 * i + 4))) kX10_law u174 (cd_reg hC) rfl rfl (⟨hC, hI, hK, hJ⟩) ⟨Nat.le_of_ble_eq_true rfl, Nat.le_of_ble_eq_true rfl⟩ rfl hl.1 rfl (Nat.le_of_ble_eq_true rfl) ⟨by show _ ≤ 600000; omega, by show _ ≤ 7302250; omega⟩ dL_law_169 (fun v H1 locs1 hR hS hz hk => ?_)
  obtain ⟨L1, rfl, hC1, hx1⟩ := hR
  have hM1 := md_stay hM hk
  refine lv_aload_n hx hb dL_law_172 rfl (lv_at hl 2 rfl) ?_
  refine lv_aload_n hx hb dL_law_173 rfl (lv_at hl 0 rfl) ?_
  refine lv_iload_n hx hb dL_law_174 rfl (lv_at hl 3 rfl) ?_
  refine lv_iconst (v := 1) hx hb dL_law_175 (by decide) ?_
  refine lv_iadd hx hb dL_law_176 ?_
  rw [show nI (5 * i) + 1 = nI (5 * i + 1) from nI_add (5 * i) 1]
  refine va_sld hx hb hX hbl hbA hS (vp_in_nI (N := Ln) (by omega) (by omega)) dL_law_177 ?_
  rw [nI_clamp (n := 5 * i + 1) (by omega)]
  refine lv_aload_n hx hb dL_law_178 rfl (lv_at hl 0 rfl) ?_
  refine lv_iload_n hx hb dL_law_179 rfl (lv_at hl 3 rfl) ?_
  refine lv_iconst (v := 2) hx hb dL_law_180 (by decide) ?_
  refine lv_iadd hx hb dL_law_181 ?_
  rw [show nI (5 * i) + 2 = nI (5 * i + 2) from nI_add (5 * i) 2]
  refine va_sld hx hb hX hbl hbA hS (vp_in_nI (N := Ln) (by omega) (by omega)) dL_law_182 ?_
  rw [nI_clamp (n := 5 * i + 2) (by omega)]
  refine lv_aload_n hx hb dL_law_183 rfl (lv_at hl 0 rfl) ?_
  refine lv_iload_n hx hb dL_law_184 rfl (lv_at hl 3 rfl) ?_
  refine lv_iconst (v := 3) hx hb dL_law_185 (by decide) ?_
  refine lv_iadd hx hb dL_law_186 ?_
  rw [show nI (5 * i) + 3 = nI (5 * i + 3) from nI_add (5 * i) 3]
  refine va_sld hx hb hX hbl hbA hS (vp_in_nI (N := Ln) (by omega) (by omega)) dL_law_187 ?_
  rw [nI_clamp (n := 5 * i + 3) (by omega)]
  refine lv_aload_n hx hb dL_law_188 rfl (lv_at hl 0 rfl) ?_
  refine lv_iload_n hx hb dL_law_189 rfl (lv_at hl 3 rfl) ?_
  refine lv_iconst (v := 4) hx hb dL_law_190 (by decide) ?_
  refine lv_iadd hx hb dL_law_191 ?_
  rw [show nI (5 * i) + 4 = nI (5 * i + 4) from nI_add (5 * i) 4]
  refine va_sld hx hb hX hbl hbA hS (vp_in_nI (N := Ln) (by omega) (by omega)) dL_law_192 ?_
  rw [nI_clamp (n := 5 * i + 4) (by omega)]
  have hr2 : ∀ q, reg2 H1.size M q → s.heap.size ≤ q := fun q h => h.elim (fun ⟨t, ht, z⟩ => by rw [z]; exact hMn t ht) (fun z => Nat.le_trans hS.1 z)
  refine ct_V (As := [.int (xs (5 * i + 1)), .int (xs (5 * i + 2)), .int (xs (5 * i + 3)), .int (xs (5 * i + 4))]) (rest := [.int ((k_law σ (xs (5 * i + 1)) (xs (5 * i + 2)) (xs (5 * i + 3)) (xs (5 * i + 4))).1)]) hx hb hml hown hu hE hZ hS hr2 (fun q h => Or.inr h) (c_law l E (reg2 H1.size M) σ M (xs (5 * i + 1)) (xs (5 * i + 2)) (xs (5 * i + 3)) (xs (5 * i + 4))) kX11_law u867 (md_obj hM1) rfl rfl ⟨md_reA hM1 (fun t ht => Or.inl ⟨t, ht, rfl⟩), hI⟩ ⟨Nat.le_of_ble_eq_true rfl, Nat.le_of_ble_eq_true rfl⟩ rfl hl.1 rfl (Nat.le_of_ble_eq_true rfl) ⟨by show _ ≤ 600000; omega, by show _ ≤ 7302250; omega⟩ dL_law_193 (fun v H2 locs2 hR hS hz hk => ?_)
  obtain ⟨rfl, hM2⟩ := hR
  have hC2 := cd_stay hC1 hk
  have hop : OpOK (k_law σ (xs (5 * i + 1)) (xs (5 * i + 2)) (xs (5 * i + 3)) (xs (5 * i + 4))) (m_law σ (xs (5 * i + 1)) (xs (5 * i + 2)) (xs (5 * i + 3)) (xs (5 * i + 4))) := law_eq hV
  refine lv_icmp_eq (x := (k_law σ (xs (5 * i + 1)) (xs (5 * i + 2)) (xs (5 * i + 3)) (xs (5 * i + 4))).1) (y := (m_law σ (xs (5 * i + 1)) (xs (5 * i + 2)) (xs (5 * i + 3)) (xs (5 * i + 4))).1) (tgt := 969) hx hb dL_law_196 (by decide) (fun _ => ?_) (fun z => absurd hop.1 z)
  exact law_next hx hb hml hown hu hE hZ hX hbl hLn h5 ih ⟨by omega, by omega⟩ (⟨(k_law σ (xs (5 * i + 1)) (xs (5 * i + 2)) (xs (5 * i + 3)) (xs (5 * i + 4))).2, L1, hC2, md_ext (md_reA hM2 (fun _ _ => trivial)) hop.2.1, hop.2.2, hx1, rfl, hMn⟩) hS hl
set_option maxHeartbeats 4000000 in
set_option maxRecDepth 20000 in
theorem law_k1 {p : Program} {l : Launch} {e : Env} {s : State} {m : MethodId} {below : List Frame} {meth : Method} {c : Code} {b Ln x y i : Nat} {xs : Nat → Int32} {E : EV} {M : Nat → Nat} {H : Heap} {locs : List Loc} {ls : Array Slot} (hx : p.tables.exec = Jvm.exec) (hb : c.code = code) (hml : c.maxLocals = 4) (hown : s.vm.findClass R_law = some m.cls) (hu : ∀ w ∈ uw, w.before #[Value.ref b] s = true) (hE : evK E s) (hZ : evZ E (fun q => s.heap.size ≤ q) s s.heap) (hX : va_X b Ln xs s s.heap) (hbl : b < s.heap.size) (hLn : Ln ≤ 2560) (h5 : 5 * i + 5 ≤ Ln) (ih : lwIH p l e s m below meth c b x y E M (i + 1)) (hLI : LI E s.heap.size x y M H) (hS : va_S (fun q => s.heap.size ≤ q) s.heap H locs) (hl : lv_has ls 4 [(0, .ref b), (1, .ref x), (2, .ref y), (3, .int (nI (5 * i)))]) : W p l e room_1 s m #[Value.ref b] below meth c H locs (300 + 3 * i) (30000 + 500 * i) (lw_Z below #[Value.ref b] s) (F0 m 201 ls []) := by
  have hbA : ¬ s.heap.size ≤ b := by omega
  obtain ⟨σ, L, hC, hM, hV, hx0, hy0, hMn⟩ := hLI
  subst hx0
  subst hy0
  obtain ⟨hI, hL, hK, hJ, hZ_, hQ_, hKK, hO_, hD_, hF_, hW_, hN_, hB_⟩ := id hV
  have hr1 : ∀ q, H.size ≤ q → reg1 s.heap.size M q := fun q hq => ⟨Nat.le_trans hS.1 hq, fun t ht z => by have := md_lt hM ht; omega⟩
  refine lv_aload_n hx hb dL_law_201 rfl (lv_at hl 1 rfl) ?_
  refine lv_aload_n hx hb dL_law_202 rfl (lv_at hl 0 rfl) ?_
  refine lv_iload_n hx hb dL_law_203 rfl (lv_at hl 3 rfl) ?_
  refine lv_iconst (v := 1) hx hb dL_law_204 (by decide) ?_
  refine lv_iadd hx hb dL_law_205 ?_
  rw [show nI (5 * i) + 1 = nI (5 * i + 1) from nI_add (5 * i) 1]
  refine va_sld hx hb hX hbl hbA hS (vp_in_nI (N := Ln) (by omega) (by omega)) dL_law_206 ?_
  rw [nI_clamp (n := 5 * i + 1) (by omega)]
  refine lv_aload_n hx hb dL_law_207 rfl (lv_at hl 0 rfl) ?_
  refine lv_iload_n hx hb dL_law_208 rfl (lv_at hl 3 rfl) ?_
  refine lv_iconst (v := 2) hx hb dL_law_209 (by decide) ?_
  refine lv_iadd hx hb dL_law_210 ?_
  rw [show nI (5 * i) + 2 = nI (5 * i + 2) from nI_add (5 * i) 2]
  refine va_sld hx hb hX hbl hbA hS (vp_in_nI (N := Ln) (by omega) (by omega)) dL_law_211 ?_
  rw [nI_clamp (n := 5 * i + 2) (by omega)]
  refine lv_aload_n hx hb dL_law_212 rfl (lv_at hl 0 rfl) ?_
  refine lv_iload_n hx hb dL_law_213 rfl (lv_at hl 3 rfl) ?_
  refine lv_iconst (v := 3) hx hb dL_law_214 (by decide) ?_
  refine lv_iadd hx hb dL_law_215 ?_
  rw [show nI (5 * i) + 3 = nI (5 * i + 3) from nI_add (5 * i) 3]
  refine va_sld hx hb hX hbl hbA hS (vp_in_nI (N := Ln) (by omega) (by omega)) dL_law_216 ?_
  rw [nI_clamp (n := 5 * i + 3) (by omega)]
  refine lv_aload_n hx hb dL_law_217 rfl (lv_at hl 0 rfl) ?_
  refine lv_iload_n hx hb dL_law_218 rfl (lv_at hl 3 rfl) ?_
  refine lv_iconst (v := 4) hx hb dL_law_219 (by decide) ?_
  refine lv_iadd hx hb dL_law_220 ?_
  rw [show nI (5 * i) + 4 = nI (5 * i + 4) from nI_add (5 * i) 4]
  refine va_sld hx hb hX hbl hbA hS (vp_in_nI (N := Ln) (by omega) (by omega)) dL_law_221 ?_
  rw [nI_clamp (n := 5 * i + 4) (by omega)]
  refine ct_V (As := [.int (xs (5 * i + 1)), .int (xs (5 * i + 2)), .int (xs (5 * i + 3)), .int (xs (5 * i + 4))]) (rest := []) hx hb hml hown hu hE hZ hS (fun _ h => h.1) hr1 (y_person l E (reg1 s.heap.size M) σ L (xs (5 * i + 1)) (xs (5 * i + 2)) (xs (5 * i + 3)) (xs (5 * i + 4))) kX10_person u258 (cd_reg hC) rfl rfl (⟨hC, hI, hK, hJ⟩) ⟨Nat.le_of_ble_eq_true rfl, Nat.le_of_ble_eq_true rfl⟩ rfl hl.1 rfl (Nat.le_of_ble_eq_true rfl) ⟨by show _ ≤ 600000; omega, by show _ ≤ 7302250; omega⟩ dL_law_222 (fun v H1 locs1 hR hS hz hk => ?_)
  obtain ⟨L1, rfl, hC1, hx1⟩ := hR
  have hM1 := md_stay hM hk
  refine lv_aload_n hx hb dL_law_225 rfl (lv_at hl 2 rfl) ?_
  refine lv_aload_n hx hb dL_law_226 rfl (lv_at hl 0 rfl) ?_
  refine lv_iload_n hx hb dL_law_227 rfl (lv_at hl 3 rfl) ?_
  refine lv_iconst (v := 1) hx hb dL_law_228 (by decide) ?_
  refine lv_iadd hx hb dL_law_229 ?_
  rw [show nI (5 * i) + 1 = nI (5 * i + 1) from nI_add (5 * i) 1]
  refine va_sld hx hb hX hbl hbA hS (vp_in_nI (N := Ln) (by omega) (by omega)) dL_law_230 ?_
  rw [nI_clamp (n := 5 * i + 1) (by omega)]
  refine lv_aload_n hx hb dL_law_231 rfl (lv_at hl 0 rfl) ?_
  refine lv_iload_n hx hb dL_law_232 rfl (lv_at hl 3 rfl) ?_
  refine lv_iconst (v := 2) hx hb dL_law_233 (by decide) ?_
  refine lv_iadd hx hb dL_law_234 ?_
  rw [show nI (5 * i) + 2 = nI (5 * i + 2) from nI_add (5 * i) 2]
  refine va_sld hx hb hX hbl hbA hS (vp_in_nI (N := Ln) (by omega) (by omega)) dL_law_235 ?_
  rw [nI_clamp (n := 5 * i + 2) (by omega)]
  refine lv_aload_n hx hb dL_law_236 rfl (lv_at hl 0 rfl) ?_
  refine lv_iload_n hx hb dL_law_237 rfl (lv_at hl 3 rfl) ?_
  refine lv_iconst (v := 3) hx hb dL_law_238 (by decide) ?_
  refine lv_iadd hx hb dL_law_239 ?_
  rw [show nI (5 * i) + 3 = nI (5 * i + 3) from nI_add (5 * i) 3]
  refine va_sld hx hb hX hbl hbA hS (vp_in_nI (N := Ln) (by omega) (by omega)) dL_law_240 ?_
  rw [nI_clamp (n := 5 * i + 3) (by omega)]
  refine lv_aload_n hx hb dL_law_241 rfl (lv_at hl 0 rfl) ?_
  refine lv_iload_n hx hb dL_law_242 rfl (lv_at hl 3 rfl) ?_
  refine lv_iconst (v := 4) hx hb dL_law_243 (by decide) ?_
  refine lv_iadd hx hb dL_law_244 ?_
  rw [show nI (5 * i) + 4 = nI (5 * i + 4) from nI_add (5 * i) 4]
  refine va_sld hx hb hX hbl hbA hS (vp_in_nI (N := Ln) (by omega) (by omega)) dL_law_245 ?_
  rw [nI_clamp (n := 5 * i + 4) (by omega)]
  have hr2 : ∀ q, reg2 H1.size M q → s.heap.size ≤ q := fun q h => h.elim (fun ⟨t, ht, z⟩ => by rw [z]; exact hMn t ht) (fun z => Nat.le_trans hS.1 z)
  refine ct_V (As := [.int (xs (5 * i + 1)), .int (xs (5 * i + 2)), .int (xs (5 * i + 3)), .int (xs (5 * i + 4))]) (rest := [.int ((k_person σ (xs (5 * i + 1)) (xs (5 * i + 2)) (xs (5 * i + 3)) (xs (5 * i + 4))).1)]) hx hb hml hown hu hE hZ hS hr2 (fun q h => Or.inr h) (c_person l E (reg2 H1.size M) σ M (xs (5 * i + 1)) (xs (5 * i + 2)) (xs (5 * i + 3)) (xs (5 * i + 4))) kX11_person u876 (md_obj hM1) rfl rfl ⟨md_reA hM1 (fun t ht => Or.inl ⟨t, ht, rfl⟩), hI⟩ ⟨Nat.le_of_ble_eq_true rfl, Nat.le_of_ble_eq_true rfl⟩ rfl hl.1 rfl (Nat.le_of_ble_eq_true rfl) ⟨by show _ ≤ 600000; omega, by show _ ≤ 7302250; omega⟩ dL_law_246 (fun v H2 locs2 hR hS hz hk => ?_)
  obtain ⟨rfl, hM2⟩ := hR
  have hC2 := cd_stay hC1 hk
  have hop : OpOK (k_person σ (xs (5 * i + 1)) (xs (5 * i + 2)) (xs (5 * i + 3)) (xs (5 * i + 4))) (m_person σ (xs (5 * i + 1)) (xs (5 * i + 2)) (xs (5 * i + 3)) (xs (5 * i + 4))) := person_eq hV
  refine lv_icmp_eq (x := (k_person σ (xs (5 * i + 1)) (xs (5 * i + 2)) (xs (5 * i + 3)) (xs (5 * i + 4))).1) (y := (m_person σ (xs (5 * i + 1)) (xs (5 * i + 2)) (xs (5 * i + 3)) (xs (5 * i + 4))).1) (tgt := 969) hx hb dL_law_249 (by decide) (fun _ => ?_) (fun z => absurd hop.1 z)
  exact law_next hx hb hml hown hu hE hZ hX hbl hLn h5 ih ⟨by omega, by omega⟩ (⟨(k_person σ (xs (5 * i + 1)) (xs (5 * i + 2)) (xs (5 * i + 3)) (xs (5 * i + 4))).2, L1, hC2, md_ext (md_reA hM2 (fun _ _ => trivial)) hop.2.1, hop.2.2, hx1, rfl, hMn⟩) hS hl
set_option maxHeartbeats 4000000 in
set_option maxRecDepth 20000 in
theorem law_k2 {p : Program} {l : Launch} {e : Env} {s : State} {m : MethodId} {below : List Frame} {meth : Method} {c : Code} {b Ln x y i : Nat} {xs : Nat → Int32} {E : EV} {M : Nat → Nat} {H : Heap} {locs : List Loc} {ls : Array Slot} (hx : p.tables.exec = Jvm.exec) (hb : c.code = code) (hml : c.maxLocals = 4) (hown : s.vm.findClass R_law = some m.cls) (hu : ∀ w ∈ uw, w.before #[Value.ref b] s = true) (hE : evK E s) (hZ : evZ E (fun q => s.heap.size ≤ q) s s.heap) (hX : va_X b Ln xs s s.heap) (hbl : b < s.heap.size) (hLn : Ln ≤ 2560) (h5 : 5 * i + 5 ≤ Ln) (ih : lwIH p l e s m below meth c b x y E M (i + 1)) (hLI : LI E s.heap.size x y M H) (hS : va_S (fun q => s.heap.size ≤ q) s.heap H locs) (hl : lv_has ls 4 [(0, .ref b), (1, .ref x), (2, .ref y), (3, .int (nI (5 * i)))]) : W p l e room_1 s m #[Value.ref b] below meth c H locs (300 + 3 * i) (30000 + 500 * i) (lw_Z below #[Value.ref b] s) (F0 m 254 ls []) := by
  have hbA : ¬ s.heap.size ≤ b := by omega
  obtain ⟨σ, L, hC, hM, hV, hx0, hy0, hMn⟩ := hLI
  subst hx0
  subst hy0
  obtain ⟨hI, hL, hK, hJ, hZ_, hQ_, hKK, hO_, hD_, hF_, hW_, hN_, hB_⟩ := id hV
  have hr1 : ∀ q, H.size ≤ q → reg1 s.heap.size M q := fun q hq => ⟨Nat.le_trans hS.1 hq, fun t ht z => by have := md_lt hM ht; omega⟩
  refine lv_aload_n hx hb dL_law_254 rfl (lv_at hl 1 rfl) ?_
  refine lv_aload_n hx hb dL_law_255 rfl (lv_at hl 0 rfl) ?_
  refine lv_iload_n hx hb dL_law_256 rfl (lv_at hl 3 rfl) ?_
  refine lv_iconst (v := 1) hx hb dL_law_257 (by decide) ?_
  refine lv_iadd hx hb dL_law_258 ?_
  rw [show nI (5 * i) + 1 = nI (5 * i + 1) from nI_add (5 * i) 1]
  refine va_sld hx hb hX hbl hbA hS (vp_in_nI (N := Ln) (by omega) (by omega)) dL_law_259 ?_
  rw [nI_clamp (n := 5 * i + 1) (by omega)]
  refine lv_aload_n hx hb dL_law_260 rfl (lv_at hl 0 rfl) ?_
  refine lv_iload_n hx hb dL_law_261 rfl (lv_at hl 3 rfl) ?_
  refine lv_iconst (v := 2) hx hb dL_law_262 (by decide) ?_
  refine lv_iadd hx hb dL_law_263 ?_
  rw [show nI (5 * i) + 2 = nI (5 * i + 2) from nI_add (5 * i) 2]
  refine va_sld hx hb hX hbl hbA hS (vp_in_nI (N := Ln) (by omega) (by omega)) dL_law_264 ?_
  rw [nI_clamp (n := 5 * i + 2) (by omega)]
  refine lv_aload_n hx hb dL_law_265 rfl (lv_at hl 0 rfl) ?_
  refine lv_iload_n hx hb dL_law_266 rfl (lv_at hl 3 rfl) ?_
  refine lv_iconst (v := 3) hx hb dL_law_267 (by decide) ?_
  refine lv_iadd hx hb dL_law_268 ?_
  rw [show nI (5 * i) + 3 = nI (5 * i + 3) from nI_add (5 * i) 3]
  refine va_sld hx hb hX hbl hbA hS (vp_in_nI (N := Ln) (by omega) (by omega)) dL_law_269 ?_
  rw [nI_clamp (n := 5 * i + 3) (by omega)]
  refine ct_V (As := [.int (xs (5 * i + 1)), .int (xs (5 * i + 2)), .int (xs (5 * i + 3))]) (rest := []) hx hb hml hown hu hE hZ hS (fun _ h => h.1) hr1 (y_paper l E (reg1 s.heap.size M) σ L (xs (5 * i + 1)) (xs (5 * i + 2)) (xs (5 * i + 3))) kX10_paper u336 (cd_reg hC) rfl rfl (⟨hC, hI, hK, hJ, hQ_⟩) ⟨Nat.le_of_ble_eq_true rfl, Nat.le_of_ble_eq_true rfl⟩ rfl hl.1 rfl (Nat.le_of_ble_eq_true rfl) ⟨by show _ ≤ 600000; omega, by show _ ≤ 7302250; omega⟩ dL_law_270 (fun v H1 locs1 hR hS hz hk => ?_)
  obtain ⟨L1, rfl, hC1, hx1⟩ := hR
  have hM1 := md_stay hM hk
  refine lv_aload_n hx hb dL_law_273 rfl (lv_at hl 2 rfl) ?_
  refine lv_aload_n hx hb dL_law_274 rfl (lv_at hl 0 rfl) ?_
  refine lv_iload_n hx hb dL_law_275 rfl (lv_at hl 3 rfl) ?_
  refine lv_iconst (v := 1) hx hb dL_law_276 (by decide) ?_
  refine lv_iadd hx hb dL_law_277 ?_
  rw [show nI (5 * i) + 1 = nI (5 * i + 1) from nI_add (5 * i) 1]
  refine va_sld hx hb hX hbl hbA hS (vp_in_nI (N := Ln) (by omega) (by omega)) dL_law_278 ?_
  rw [nI_clamp (n := 5 * i + 1) (by omega)]
  refine lv_aload_n hx hb dL_law_279 rfl (lv_at hl 0 rfl) ?_
  refine lv_iload_n hx hb dL_law_280 rfl (lv_at hl 3 rfl) ?_
  refine lv_iconst (v := 2) hx hb dL_law_281 (by decide) ?_
  refine lv_iadd hx hb dL_law_282 ?_
  rw [show nI (5 * i) + 2 = nI (5 * i + 2) from nI_add (5 * i) 2]
  refine va_sld hx hb hX hbl hbA hS (vp_in_nI (N := Ln) (by omega) (by omega)) dL_law_283 ?_
  rw [nI_clamp (n := 5 * i + 2) (by omega)]
  refine lv_aload_n hx hb dL_law_284 rfl (lv_at hl 0 rfl) ?_
  refine lv_iload_n hx hb dL_law_285 rfl (lv_at hl 3 rfl) ?_
  refine lv_iconst (v := 3) hx hb dL_law_286 (by decide) ?_
  refine lv_iadd hx hb dL_law_287 ?_
  rw [show nI (5 * i) + 3 = nI (5 * i + 3) from nI_add (5 * i) 3]
  refine va_sld hx hb hX hbl hbA hS (vp_in_nI (N := Ln) (by omega) (by omega)) dL_law_288 ?_
  rw [nI_clamp (n := 5 * i + 3) (by omega)]
  have hr2 : ∀ q, reg2 H1.size M q → s.heap.size ≤ q := fun q h => h.elim (fun ⟨t, ht, z⟩ => by rw [z]; exact hMn t ht) (fun z => Nat.le_trans hS.1 z)
  refine ct_V (As := [.int (xs (5 * i + 1)), .int (xs (5 * i + 2)), .int (xs (5 * i + 3))]) (rest := [.int ((k_paper σ (xs (5 * i + 1)) (xs (5 * i + 2)) (xs (5 * i + 3))).1)]) hx hb hml hown hu hE hZ hS hr2 (fun q h => Or.inr h) (c_paper l E (reg2 H1.size M) σ M (xs (5 * i + 1)) (xs (5 * i + 2)) (xs (5 * i + 3))) kX11_paper u884 (md_obj hM1) rfl rfl ⟨md_reA hM1 (fun t ht => Or.inl ⟨t, ht, rfl⟩), hI⟩ ⟨Nat.le_of_ble_eq_true rfl, Nat.le_of_ble_eq_true rfl⟩ rfl hl.1 rfl (Nat.le_of_ble_eq_true rfl) ⟨by show _ ≤ 600000; omega, by show _ ≤ 7302250; omega⟩ dL_law_289 (fun v H2 locs2 hR hS hz hk => ?_)
  obtain ⟨rfl, hM2⟩ := hR
  have hC2 := cd_stay hC1 hk
  have hop : OpOK (k_paper σ (xs (5 * i + 1)) (xs (5 * i + 2)) (xs (5 * i + 3))) (m_paper σ (xs (5 * i + 1)) (xs (5 * i + 2)) (xs (5 * i + 3))) := paper_eq hV
  refine lv_icmp_eq (x := (k_paper σ (xs (5 * i + 1)) (xs (5 * i + 2)) (xs (5 * i + 3))).1) (y := (m_paper σ (xs (5 * i + 1)) (xs (5 * i + 2)) (xs (5 * i + 3))).1) (tgt := 969) hx hb dL_law_292 (by decide) (fun _ => ?_) (fun z => absurd hop.1 z)
  exact law_next hx hb hml hown hu hE hZ hX hbl hLn h5 ih ⟨by omega, by omega⟩ (⟨(k_paper σ (xs (5 * i + 1)) (xs (5 * i + 2)) (xs (5 * i + 3))).2, L1, hC2, md_ext (md_reA hM2 (fun _ _ => trivial)) hop.2.1, hop.2.2, hx1, rfl, hMn⟩) hS hl
set_option maxHeartbeats 4000000 in
set_option maxRecDepth 20000 in
theorem law_k3 {p : Program} {l : Launch} {e : Env} {s : State} {m : MethodId} {below : List Frame} {meth : Method} {c : Code} {b Ln x y i : Nat} {xs : Nat → Int32} {E : EV} {M : Nat → Nat} {H : Heap} {locs : List Loc} {ls : Array Slot} (hx : p.tables.exec = Jvm.exec) (hb : c.code = code) (hml : c.maxLocals = 4) (hown : s.vm.findClass R_law = some m.cls) (hu : ∀ w ∈ uw, w.before #[Value.ref b] s = true) (hE : evK E s) (hZ : evZ E (fun q => s.heap.size ≤ q) s s.heap) (hX : va_X b Ln xs s s.heap) (hbl : b < s.heap.size) (hLn : Ln ≤ 2560) (h5 : 5 * i + 5 ≤ Ln) (ih : lwIH p l e s m below meth c b x y E M (i + 1)) (hLI : LI E s.heap.size x y M H) (hS : va_S (fun q => s.heap.size ≤ q) s.heap H locs) (hl : lv_has ls 4 [(0, .ref b), (1, .ref x), (2, .ref y), (3, .int (nI (5 * i)))]) : W p l e room_1 s m #[Value.ref b] below meth c H locs (300 + 3 * i) (30000 + 500 * i) (lw_Z below #[Value.ref b] s) (F0 m 297 ls []) := by
  have hbA : ¬ s.heap.size ≤ b := by omega
  obtain ⟨σ, L, hC, hM, hV, hx0, hy0, hMn⟩ := hLI
  subst hx0
  subst hy0
  obtain ⟨hI, hL, hK, hJ, hZ_, hQ_, hKK, hO_, hD_, hF_, hW_, hN_, hB_⟩ := id hV
  have hr1 : ∀ q, H.size ≤ q → reg1 s.heap.size M q := fun q hq => ⟨Nat.le_trans hS.1 hq, fun t ht z => by have := md_lt hM ht; omega⟩
  refine lv_aload_n hx hb dL_law_297 rfl (lv_at hl 1 rfl) ?_
  refine lv_aload_n hx hb dL_law_298 rfl (lv_at hl 0 rfl) ?_
  refine lv_iload_n hx hb dL_law_299 rfl (lv_at hl 3 rfl) ?_
  refine lv_iconst (v := 1) hx hb dL_law_300 (by decide) ?_
  refine lv_iadd hx hb dL_law_301 ?_
  rw [show nI (5 * i) + 1 = nI (5 * i + 1) from nI_add (5 * i) 1]
  refine va_sld hx hb hX hbl hbA hS (vp_in_nI (N := Ln) (by omega) (by omega)) dL_law_302 ?_
  rw [nI_clamp (n := 5 * i + 1) (by omega)]
  refine ct_V (As := [.int (xs (5 * i + 1))]) (rest := []) hx hb hml hown hu hE hZ hS (fun _ h => h.1) hr1 (y_feast l E (reg1 s.heap.size M) σ L (xs (5 * i + 1))) kX10_feast u355 (cd_reg hC) rfl rfl (⟨hC, hI⟩) ⟨Nat.le_of_ble_eq_true rfl, Nat.le_of_ble_eq_true rfl⟩ rfl hl.1 rfl (Nat.le_of_ble_eq_true rfl) ⟨by show _ ≤ 600000; omega, by show _ ≤ 7302250; omega⟩ dL_law_303 (fun v H1 locs1 hR hS hz hk => ?_)
  obtain ⟨L1, rfl, hC1, hx1⟩ := hR
  have hM1 := md_stay hM hk
  refine lv_aload_n hx hb dL_law_306 rfl (lv_at hl 2 rfl) ?_
  refine lv_aload_n hx hb dL_law_307 rfl (lv_at hl 0 rfl) ?_
  refine lv_iload_n hx hb dL_law_308 rfl (lv_at hl 3 rfl) ?_
  refine lv_iconst (v := 1) hx hb dL_law_309 (by decide) ?_
  refine lv_iadd hx hb dL_law_310 ?_
  rw [show nI (5 * i) + 1 = nI (5 * i + 1) from nI_add (5 * i) 1]
  refine va_sld hx hb hX hbl hbA hS (vp_in_nI (N := Ln) (by omega) (by omega)) dL_law_311 ?_
  rw [nI_clamp (n := 5 * i + 1) (by omega)]
  have hr2 : ∀ q, reg2 H1.size M q → s.heap.size ≤ q := fun q h => h.elim (fun ⟨t, ht, z⟩ => by rw [z]; exact hMn t ht) (fun z => Nat.le_trans hS.1 z)
  refine ct_V (As := [.int (xs (5 * i + 1))]) (rest := [.int ((k_feast σ (xs (5 * i + 1))).1)]) hx hb hml hown hu hE hZ hS hr2 (fun q h => Or.inr h) (c_feast l E (reg2 H1.size M) σ M (xs (5 * i + 1))) kX11_feast u888 (md_obj hM1) rfl rfl ⟨md_reA hM1 (fun t ht => Or.inl ⟨t, ht, rfl⟩), hI⟩ ⟨Nat.le_of_ble_eq_true rfl, Nat.le_of_ble_eq_true rfl⟩ rfl hl.1 rfl (Nat.le_of_ble_eq_true rfl) ⟨by show _ ≤ 600000; omega, by show _ ≤ 7302250; omega⟩ dL_law_312 (fun v H2 locs2 hR hS hz hk => ?_)
  obtain ⟨rfl, hM2⟩ := hR
  have hC2 := cd_stay hC1 hk
  have hop : OpOK (k_feast σ (xs (5 * i + 1))) (m_feast σ (xs (5 * i + 1))) := feast_eq hV
  refine lv_icmp_eq (x := (k_feast σ (xs (5 * i + 1))).1) (y := (m_feast σ (xs (5 * i + 1))).1) (tgt := 969) hx hb dL_law_315 (by decide) (fun _ => ?_) (fun z => absurd hop.1 z)
  exact law_next hx hb hml hown hu hE hZ hX hbl hLn h5 ih ⟨by omega, by omega⟩ (⟨(k_feast σ (xs (5 * i + 1))).2, L1, hC2, md_ext (md_reA hM2 (fun _ _ => trivial)) hop.2.1, hop.2.2, hx1, rfl, hMn⟩) hS hl
set_option maxHeartbeats 4000000 in
set_option maxRecDepth 20000 in
theorem law_k4 {p : Program} {l : Launch} {e : Env} {s : State} {m : MethodId} {below : List Frame} {meth : Method} {c : Code} {b Ln x y i : Nat} {xs : Nat → Int32} {E : EV} {M : Nat → Nat} {H : Heap} {locs : List Loc} {ls : Array Slot} (hx : p.tables.exec = Jvm.exec) (hb : c.code = code) (hml : c.maxLocals = 4) (hown : s.vm.findClass R_law = some m.cls) (hu : ∀ w ∈ uw, w.before #[Value.ref b] s = true) (hE : evK E s) (hZ : evZ E (fun q => s.heap.size ≤ q) s s.heap) (hX : va_X b Ln xs s s.heap) (hbl : b < s.heap.size) (hLn : Ln ≤ 2560) (h5 : 5 * i + 5 ≤ Ln) (ih : lwIH p l e s m below meth c b x y E M (i + 1)) (hLI : LI E s.heap.size x y M H) (hS : va_S (fun q => s.heap.size ≤ q) s.heap H locs) (hl : lv_has ls 4 [(0, .ref b), (1, .ref x), (2, .ref y), (3, .int (nI (5 * i)))]) : W p l e room_1 s m #[Value.ref b] below meth c H locs (300 + 3 * i) (30000 + 500 * i) (lw_Z below #[Value.ref b] s) (F0 m 320 ls []) := by
  have hbA : ¬ s.heap.size ≤ b := by omega
  obtain ⟨σ, L, hC, hM, hV, hx0, hy0, hMn⟩ := hLI
  subst hx0
  subst hy0
  obtain ⟨hI, hL, hK, hJ, hZ_, hQ_, hKK, hO_, hD_, hF_, hW_, hN_, hB_⟩ := id hV
  have hr1 : ∀ q, H.size ≤ q → reg1 s.heap.size M q := fun q hq => ⟨Nat.le_trans hS.1 hq, fun t ht z => by have := md_lt hM ht; omega⟩
  refine lv_aload_n hx hb dL_law_320 rfl (lv_at hl 1 rfl) ?_
  refine lv_aload_n hx hb dL_law_321 rfl (lv_at hl 0 rfl) ?_
  refine lv_iload_n hx hb dL_law_322 rfl (lv_at hl 3 rfl) ?_
  refine lv_iconst (v := 1) hx hb dL_law_323 (by decide) ?_
  refine lv_iadd hx hb dL_law_324 ?_
  rw [show nI (5 * i) + 1 = nI (5 * i + 1) from nI_add (5 * i) 1]
  refine va_sld hx hb hX hbl hbA hS (vp_in_nI (N := Ln) (by omega) (by omega)) dL_law_325 ?_
  rw [nI_clamp (n := 5 * i + 1) (by omega)]
  refine ct_V (As := [.int (xs (5 * i + 1))]) (rest := []) hx hb hml hown hu hE hZ hS (fun _ h => h.1) hr1 (y_go l E (reg1 s.heap.size M) σ L (xs (5 * i + 1))) kX10_go u367 (cd_reg hC) rfl rfl (⟨hC, hI⟩) ⟨Nat.le_of_ble_eq_true rfl, Nat.le_of_ble_eq_true rfl⟩ rfl hl.1 rfl (Nat.le_of_ble_eq_true rfl) ⟨by show _ ≤ 600000; omega, by show _ ≤ 7302250; omega⟩ dL_law_326 (fun v H1 locs1 hR hS hz hk => ?_)
  obtain ⟨L1, rfl, hC1, hx1⟩ := hR
  have hM1 := md_stay hM hk
  refine lv_aload_n hx hb dL_law_329 rfl (lv_at hl 2 rfl) ?_
  refine lv_aload_n hx hb dL_law_330 rfl (lv_at hl 0 rfl) ?_
  refine lv_iload_n hx hb dL_law_331 rfl (lv_at hl 3 rfl) ?_
  refine lv_iconst (v := 1) hx hb dL_law_332 (by decide) ?_
  refine lv_iadd hx hb dL_law_333 ?_
  rw [show nI (5 * i) + 1 = nI (5 * i + 1) from nI_add (5 * i) 1]
  refine va_sld hx hb hX hbl hbA hS (vp_in_nI (N := Ln) (by omega) (by omega)) dL_law_334 ?_
  rw [nI_clamp (n := 5 * i + 1) (by omega)]
  have hr2 : ∀ q, reg2 H1.size M q → s.heap.size ≤ q := fun q h => h.elim (fun ⟨t, ht, z⟩ => by rw [z]; exact hMn t ht) (fun z => Nat.le_trans hS.1 z)
  refine ct_V (As := [.int (xs (5 * i + 1))]) (rest := [.int ((k_go σ (xs (5 * i + 1))).1)]) hx hb hml hown hu hE hZ hS hr2 (fun q h => Or.inr h) (c_go l E (reg2 H1.size M) σ M (xs (5 * i + 1))) kX11_go u896 (md_obj hM1) rfl rfl ⟨md_reA hM1 (fun t ht => Or.inl ⟨t, ht, rfl⟩), hI⟩ ⟨Nat.le_of_ble_eq_true rfl, Nat.le_of_ble_eq_true rfl⟩ rfl hl.1 rfl (Nat.le_of_ble_eq_true rfl) ⟨by show _ ≤ 600000; omega, by show _ ≤ 7302250; omega⟩ dL_law_335 (fun v H2 locs2 hR hS hz hk => ?_)
  obtain ⟨rfl, hM2⟩ := hR
  have hC2 := cd_stay hC1 hk
  have hop : OpOK (k_go σ (xs (5 * i + 1))) (m_go σ (xs (5 * i + 1))) := go_eq hV
  refine lv_icmp_eq (x := (k_go σ (xs (5 * i + 1))).1) (y := (m_go σ (xs (5 * i + 1))).1) (tgt := 969) hx hb dL_law_338 (by decide) (fun _ => ?_) (fun z => absurd hop.1 z)
  exact law_next hx hb hml hown hu hE hZ hX hbl hLn h5 ih ⟨by omega, by omega⟩ (⟨(k_go σ (xs (5 * i + 1))).2, L1, hC2, md_ext (md_reA hM2 (fun _ _ => trivial)) hop.2.1, hop.2.2, hx1, rfl, hMn⟩) hS hl
set_option maxHeartbeats 4000000 in
set_option maxRecDepth 20000 in
theorem law_k5 {p : Program} {l : Launch} {e : Env} {s : State} {m : MethodId} {below : List Frame} {meth : Method} {c : Code} {b Ln x y i : Nat} {xs : Nat → Int32} {E : EV} {M : Nat → Nat} {H : Heap} {locs : List Loc} {ls : Array Slot} (hx : p.tables.exec = Jvm.exec) (hb : c.code = code) (hml : c.maxLocals = 4) (hown : s.vm.findClass R_law = some m.cls) (hu : ∀ w ∈ uw, w.before #[Value.ref b] s = true) (hE : evK E s) (hZ : evZ E (fun q => s.heap.size ≤ q) s s.heap) (hX : va_X b Ln xs s s.heap) (hbl : b < s.heap.size) (hLn : Ln ≤ 2560) (h5 : 5 * i + 5 ≤ Ln) (ih : lwIH p l e s m below meth c b x y E M (i + 1)) (hLI : LI E s.heap.size x y M H) (hS : va_S (fun q => s.heap.size ≤ q) s.heap H locs) (hl : lv_has ls 4 [(0, .ref b), (1, .ref x), (2, .ref y), (3, .int (nI (5 * i)))]) : W p l e room_1 s m #[Value.ref b] below meth c H locs (300 + 3 * i) (30000 + 500 * i) (lw_Z below #[Value.ref b] s) (F0 m 343 ls []) := by
  have hbA : ¬ s.heap.size ≤ b := by omega
  obtain ⟨σ, L, hC, hM, hV, hx0, hy0, hMn⟩ := hLI
  subst hx0
  subst hy0
  obtain ⟨hI, hL, hK, hJ, hZ_, hQ_, hKK, hO_, hD_, hF_, hW_, hN_, hB_⟩ := id hV
  have hr1 : ∀ q, H.size ≤ q → reg1 s.heap.size M q := fun q hq => ⟨Nat.le_trans hS.1 hq, fun t ht z => by have := md_lt hM ht; omega⟩
  refine lv_aload_n hx hb dL_law_343 rfl (lv_at hl 1 rfl) ?_
  refine lv_aload_n hx hb dL_law_344 rfl (lv_at hl 0 rfl) ?_
  refine lv_iload_n hx hb dL_law_345 rfl (lv_at hl 3 rfl) ?_
  refine lv_iconst (v := 1) hx hb dL_law_346 (by decide) ?_
  refine lv_iadd hx hb dL_law_347 ?_
  rw [show nI (5 * i) + 1 = nI (5 * i + 1) from nI_add (5 * i) 1]
  refine va_sld hx hb hX hbl hbA hS (vp_in_nI (N := Ln) (by omega) (by omega)) dL_law_348 ?_
  rw [nI_clamp (n := 5 * i + 1) (by omega)]
  refine lv_aload_n hx hb dL_law_349 rfl (lv_at hl 0 rfl) ?_
  refine lv_iload_n hx hb dL_law_350 rfl (lv_at hl 3 rfl) ?_
  refine lv_iconst (v := 2) hx hb dL_law_351 (by decide) ?_
  refine lv_iadd hx hb dL_law_352 ?_
  rw [show nI (5 * i) + 2 = nI (5 * i + 2) from nI_add (5 * i) 2]
  refine va_sld hx hb hX hbl hbA hS (vp_in_nI (N := Ln) (by omega) (by omega)) dL_law_353 ?_
  rw [nI_clamp (n := 5 * i + 2) (by omega)]
  refine cr_V (As := [.int (xs (5 * i + 1)), .int (xs (5 * i + 2))]) (rest := []) hx hb hml hown hu hE (x_kin l E (reg1 s.heap.size M) σ L (xs (5 * i + 1)) (xs (5 * i + 2))) kX10_kin u372 (cd_reg hC) rfl rfl (⟨hC, hI⟩) ⟨Nat.le_of_ble_eq_true rfl, Nat.le_of_ble_eq_true rfl⟩ rfl hl.1 rfl (Nat.le_of_ble_eq_true rfl) ⟨by show _ ≤ 600000; omega, by show _ ≤ 7302250; omega⟩ dL_law_354 ?_
  have hC1 := hC
  have hx1 : L 0 0 = L 0 0 := rfl
  have hM1 := hM
  refine lv_aload_n hx hb dL_law_357 rfl (lv_at hl 2 rfl) ?_
  refine lv_aload_n hx hb dL_law_358 rfl (lv_at hl 0 rfl) ?_
  refine lv_iload_n hx hb dL_law_359 rfl (lv_at hl 3 rfl) ?_
  refine lv_iconst (v := 1) hx hb dL_law_360 (by decide) ?_
  refine lv_iadd hx hb dL_law_361 ?_
  rw [show nI (5 * i) + 1 = nI (5 * i + 1) from nI_add (5 * i) 1]
  refine va_sld hx hb hX hbl hbA hS (vp_in_nI (N := Ln) (by omega) (by omega)) dL_law_362 ?_
  rw [nI_clamp (n := 5 * i + 1) (by omega)]
  refine lv_aload_n hx hb dL_law_363 rfl (lv_at hl 0 rfl) ?_
  refine lv_iload_n hx hb dL_law_364 rfl (lv_at hl 3 rfl) ?_
  refine lv_iconst (v := 2) hx hb dL_law_365 (by decide) ?_
  refine lv_iadd hx hb dL_law_366 ?_
  rw [show nI (5 * i) + 2 = nI (5 * i + 2) from nI_add (5 * i) 2]
  refine va_sld hx hb hX hbl hbA hS (vp_in_nI (N := Ln) (by omega) (by omega)) dL_law_367 ?_
  rw [nI_clamp (n := 5 * i + 2) (by omega)]
  have hr2 : ∀ q, reg2 H.size M q → s.heap.size ≤ q := fun q h => h.elim (fun ⟨t, ht, z⟩ => by rw [z]; exact hMn t ht) (fun z => Nat.le_trans hS.1 z)
  refine cr_V (As := [.int (xs (5 * i + 1)), .int (xs (5 * i + 2))]) (rest := [.int (k_kin σ (xs (5 * i + 1)) (xs (5 * i + 2)))]) hx hb hml hown hu hE (c_kin l E (fun _ => True) σ M (xs (5 * i + 1)) (xs (5 * i + 2))) kX11_kin u901 (md_obj hM1) rfl rfl ⟨hM1, hI⟩ ⟨Nat.le_of_ble_eq_true rfl, Nat.le_of_ble_eq_true rfl⟩ rfl hl.1 rfl (Nat.le_of_ble_eq_true rfl) ⟨by show _ ≤ 600000; omega, by show _ ≤ 7302250; omega⟩ dL_law_368 ?_
  have hM2 := hM1
  have hC2 := hC1
  have heq : k_kin σ (xs (5 * i + 1)) (xs (5 * i + 2)) = m_kin σ (xs (5 * i + 1)) (xs (5 * i + 2)) := kin_eq hI
  refine lv_icmp_eq (x := k_kin σ (xs (5 * i + 1)) (xs (5 * i + 2))) (y := m_kin σ (xs (5 * i + 1)) (xs (5 * i + 2))) (tgt := 969) hx hb dL_law_371 (by decide) (fun _ => ?_) (fun z => absurd heq z)
  exact law_next hx hb hml hown hu hE hZ hX hbl hLn h5 ih ⟨by omega, by omega⟩ (⟨σ, L, hC2, md_reA hM2 (fun _ _ => trivial), hV, rfl, rfl, hMn⟩) hS hl
set_option maxHeartbeats 4000000 in
set_option maxRecDepth 20000 in
theorem law_k6 {p : Program} {l : Launch} {e : Env} {s : State} {m : MethodId} {below : List Frame} {meth : Method} {c : Code} {b Ln x y i : Nat} {xs : Nat → Int32} {E : EV} {M : Nat → Nat} {H : Heap} {locs : List Loc} {ls : Array Slot} (hx : p.tables.exec = Jvm.exec) (hb : c.code = code) (hml : c.maxLocals = 4) (hown : s.vm.findClass R_law = some m.cls) (hu : ∀ w ∈ uw, w.before #[Value.ref b] s = true) (hE : evK E s) (hZ : evZ E (fun q => s.heap.size ≤ q) s s.heap) (hX : va_X b Ln xs s s.heap) (hbl : b < s.heap.size) (hLn : Ln ≤ 2560) (h5 : 5 * i + 5 ≤ Ln) (ih : lwIH p l e s m below meth c b x y E M (i + 1)) (hLI : LI E s.heap.size x y M H) (hS : va_S (fun q => s.heap.size ≤ q) s.heap H locs) (hl : lv_has ls 4 [(0, .ref b), (1, .ref x), (2, .ref y), (3, .int (nI (5 * i)))]) : W p l e room_1 s m #[Value.ref b] below meth c H locs (300 + 3 * i) (30000 + 500 * i) (lw_Z below #[Value.ref b] s) (F0 m 376 ls []) := by
  have hbA : ¬ s.heap.size ≤ b := by omega
  obtain ⟨σ, L, hC, hM, hV, hx0, hy0, hMn⟩ := hLI
  subst hx0
  subst hy0
  obtain ⟨hI, hL, hK, hJ, hZ_, hQ_, hKK, hO_, hD_, hF_, hW_, hN_, hB_⟩ := id hV
  have hr1 : ∀ q, H.size ≤ q → reg1 s.heap.size M q := fun q hq => ⟨Nat.le_trans hS.1 hq, fun t ht z => by have := md_lt hM ht; omega⟩
  refine lv_aload_n hx hb dL_law_376 rfl (lv_at hl 1 rfl) ?_
  refine lv_aload_n hx hb dL_law_377 rfl (lv_at hl 0 rfl) ?_
  refine lv_iload_n hx hb dL_law_378 rfl (lv_at hl 3 rfl) ?_
  refine lv_iconst (v := 1) hx hb dL_law_379 (by decide) ?_
  refine lv_iadd hx hb dL_law_380 ?_
  rw [show nI (5 * i) + 1 = nI (5 * i + 1) from nI_add (5 * i) 1]
  refine va_sld hx hb hX hbl hbA hS (vp_in_nI (N := Ln) (by omega) (by omega)) dL_law_381 ?_
  rw [nI_clamp (n := 5 * i + 1) (by omega)]
  refine lv_aload_n hx hb dL_law_382 rfl (lv_at hl 0 rfl) ?_
  refine lv_iload_n hx hb dL_law_383 rfl (lv_at hl 3 rfl) ?_
  refine lv_iconst (v := 2) hx hb dL_law_384 (by decide) ?_
  refine lv_iadd hx hb dL_law_385 ?_
  rw [show nI (5 * i) + 2 = nI (5 * i + 2) from nI_add (5 * i) 2]
  refine va_sld hx hb hX hbl hbA hS (vp_in_nI (N := Ln) (by omega) (by omega)) dL_law_386 ?_
  rw [nI_clamp (n := 5 * i + 2) (by omega)]
  refine lv_aload_n hx hb dL_law_387 rfl (lv_at hl 0 rfl) ?_
  refine lv_iload_n hx hb dL_law_388 rfl (lv_at hl 3 rfl) ?_
  refine lv_iconst (v := 3) hx hb dL_law_389 (by decide) ?_
  refine lv_iadd hx hb dL_law_390 ?_
  rw [show nI (5 * i) + 3 = nI (5 * i + 3) from nI_add (5 * i) 3]
  refine va_sld hx hb hX hbl hbA hS (vp_in_nI (N := Ln) (by omega) (by omega)) dL_law_391 ?_
  rw [nI_clamp (n := 5 * i + 3) (by omega)]
  refine cr_V (As := [.int (xs (5 * i + 1)), .int (xs (5 * i + 2)), .int (xs (5 * i + 3))]) (rest := []) hx hb hml hown hu hE (x_against l E (reg1 s.heap.size M) σ L (xs (5 * i + 1)) (xs (5 * i + 2)) (xs (5 * i + 3))) kX10_against u399 (cd_reg hC) rfl rfl (⟨hC, hI, hL, hK⟩) ⟨Nat.le_of_ble_eq_true rfl, Nat.le_of_ble_eq_true rfl⟩ rfl hl.1 rfl (Nat.le_of_ble_eq_true rfl) ⟨by show _ ≤ 600000; omega, by show _ ≤ 7302250; omega⟩ dL_law_392 ?_
  have hC1 := hC
  have hx1 : L 0 0 = L 0 0 := rfl
  have hM1 := hM
  refine lv_aload_n hx hb dL_law_395 rfl (lv_at hl 2 rfl) ?_
  refine lv_aload_n hx hb dL_law_396 rfl (lv_at hl 0 rfl) ?_
  refine lv_iload_n hx hb dL_law_397 rfl (lv_at hl 3 rfl) ?_
  refine lv_iconst (v := 1) hx hb dL_law_398 (by decide) ?_
  refine lv_iadd hx hb dL_law_399 ?_
  rw [show nI (5 * i) + 1 = nI (5 * i + 1) from nI_add (5 * i) 1]
  refine va_sld hx hb hX hbl hbA hS (vp_in_nI (N := Ln) (by omega) (by omega)) dL_law_400 ?_
  rw [nI_clamp (n := 5 * i + 1) (by omega)]
  refine lv_aload_n hx hb dL_law_401 rfl (lv_at hl 0 rfl) ?_
  refine lv_iload_n hx hb dL_law_402 rfl (lv_at hl 3 rfl) ?_
  refine lv_iconst (v := 2) hx hb dL_law_403 (by decide) ?_
  refine lv_iadd hx hb dL_law_404 ?_
  rw [show nI (5 * i) + 2 = nI (5 * i + 2) from nI_add (5 * i) 2]
  refine va_sld hx hb hX hbl hbA hS (vp_in_nI (N := Ln) (by omega) (by omega)) dL_law_405 ?_
  rw [nI_clamp (n := 5 * i + 2) (by omega)]
  refine lv_aload_n hx hb dL_law_406 rfl (lv_at hl 0 rfl) ?_
  refine lv_iload_n hx hb dL_law_407 rfl (lv_at hl 3 rfl) ?_
  refine lv_iconst (v := 3) hx hb dL_law_408 (by decide) ?_
  refine lv_iadd hx hb dL_law_409 ?_
  rw [show nI (5 * i) + 3 = nI (5 * i + 3) from nI_add (5 * i) 3]
  refine va_sld hx hb hX hbl hbA hS (vp_in_nI (N := Ln) (by omega) (by omega)) dL_law_410 ?_
  rw [nI_clamp (n := 5 * i + 3) (by omega)]
  have hr2 : ∀ q, reg2 H.size M q → s.heap.size ≤ q := fun q h => h.elim (fun ⟨t, ht, z⟩ => by rw [z]; exact hMn t ht) (fun z => Nat.le_trans hS.1 z)
  refine ct_V (As := [.int (xs (5 * i + 1)), .int (xs (5 * i + 2)), .int (xs (5 * i + 3))]) (rest := [.int (k_against σ (xs (5 * i + 1)) (xs (5 * i + 2)) (xs (5 * i + 3)))]) hx hb hml hown hu hE hZ hS hr2 (fun q h => Or.inr h) (c_against l E (reg2 H.size M) σ M (xs (5 * i + 1)) (xs (5 * i + 2)) (xs (5 * i + 3))) kX11_against u921 (md_obj hM1) rfl rfl ⟨md_reA hM1 (fun t ht => Or.inl ⟨t, ht, rfl⟩), hI⟩ ⟨Nat.le_of_ble_eq_true rfl, Nat.le_of_ble_eq_true rfl⟩ rfl hl.1 rfl (Nat.le_of_ble_eq_true rfl) ⟨by show _ ≤ 600000; omega, by show _ ≤ 7302250; omega⟩ dL_law_411 (fun v H2 locs2 hR hS hz hk => ?_)
  obtain ⟨rfl, hM2⟩ := hR
  have hC2 := cd_stay hC1 hk
  have heq : k_against σ (xs (5 * i + 1)) (xs (5 * i + 2)) (xs (5 * i + 3)) = m_against σ (xs (5 * i + 1)) (xs (5 * i + 2)) (xs (5 * i + 3)) := against_eq hI hK hKK
  refine lv_icmp_eq (x := k_against σ (xs (5 * i + 1)) (xs (5 * i + 2)) (xs (5 * i + 3))) (y := m_against σ (xs (5 * i + 1)) (xs (5 * i + 2)) (xs (5 * i + 3))) (tgt := 969) hx hb dL_law_414 (by decide) (fun _ => ?_) (fun z => absurd heq z)
  exact law_next hx hb hml hown hu hE hZ hX hbl hLn h5 ih ⟨by omega, by omega⟩ (⟨σ, L, hC2, md_reA hM2 (fun _ _ => trivial), hV, rfl, rfl, hMn⟩) hS hl
set_option maxHeartbeats 4000000 in
set_option maxRecDepth 20000 in
theorem law_k7 {p : Program} {l : Launch} {e : Env} {s : State} {m : MethodId} {below : List Frame} {meth : Method} {c : Code} {b Ln x y i : Nat} {xs : Nat → Int32} {E : EV} {M : Nat → Nat} {H : Heap} {locs : List Loc} {ls : Array Slot} (hx : p.tables.exec = Jvm.exec) (hb : c.code = code) (hml : c.maxLocals = 4) (hown : s.vm.findClass R_law = some m.cls) (hu : ∀ w ∈ uw, w.before #[Value.ref b] s = true) (hE : evK E s) (hZ : evZ E (fun q => s.heap.size ≤ q) s s.heap) (hX : va_X b Ln xs s s.heap) (hbl : b < s.heap.size) (hLn : Ln ≤ 2560) (h5 : 5 * i + 5 ≤ Ln) (ih : lwIH p l e s m below meth c b x y E M (i + 1)) (hLI : LI E s.heap.size x y M H) (hS : va_S (fun q => s.heap.size ≤ q) s.heap H locs) (hl : lv_has ls 4 [(0, .ref b), (1, .ref x), (2, .ref y), (3, .int (nI (5 * i)))]) : W p l e room_1 s m #[Value.ref b] below meth c H locs (300 + 3 * i) (30000 + 500 * i) (lw_Z below #[Value.ref b] s) (F0 m 419 ls []) := by
  have hbA : ¬ s.heap.size ≤ b := by omega
  obtain ⟨σ, L, hC, hM, hV, hx0, hy0, hMn⟩ := hLI
  subst hx0
  subst hy0
  obtain ⟨hI, hL, hK, hJ, hZ_, hQ_, hKK, hO_, hD_, hF_, hW_, hN_, hB_⟩ := id hV
  have hr1 : ∀ q, H.size ≤ q → reg1 s.heap.size M q := fun q hq => ⟨Nat.le_trans hS.1 hq, fun t ht z => by have := md_lt hM ht; omega⟩
  refine lv_aload_n hx hb dL_law_419 rfl (lv_at hl 1 rfl) ?_
  refine lv_aload_n hx hb dL_law_420 rfl (lv_at hl 0 rfl) ?_
  refine lv_iload_n hx hb dL_law_421 rfl (lv_at hl 3 rfl) ?_
  refine lv_iconst (v := 1) hx hb dL_law_422 (by decide) ?_
  refine lv_iadd hx hb dL_law_423 ?_
  rw [show nI (5 * i) + 1 = nI (5 * i + 1) from nI_add (5 * i) 1]
  refine va_sld hx hb hX hbl hbA hS (vp_in_nI (N := Ln) (by omega) (by omega)) dL_law_424 ?_
  rw [nI_clamp (n := 5 * i + 1) (by omega)]
  refine lv_aload_n hx hb dL_law_425 rfl (lv_at hl 0 rfl) ?_
  refine lv_iload_n hx hb dL_law_426 rfl (lv_at hl 3 rfl) ?_
  refine lv_iconst (v := 2) hx hb dL_law_427 (by decide) ?_
  refine lv_iadd hx hb dL_law_428 ?_
  rw [show nI (5 * i) + 2 = nI (5 * i + 2) from nI_add (5 * i) 2]
  refine va_sld hx hb hX hbl hbA hS (vp_in_nI (N := Ln) (by omega) (by omega)) dL_law_429 ?_
  rw [nI_clamp (n := 5 * i + 2) (by omega)]
  refine ct_V (As := [.int (xs (5 * i + 1)), .int (xs (5 * i + 2))]) (rest := []) hx hb hml hown hu hE hZ hS (fun _ h => h.1) hr1 (y_post l E (reg1 s.heap.size M) σ L (xs (5 * i + 1)) (xs (5 * i + 2))) kX10_post u429 (cd_reg hC) rfl rfl (⟨hC, hI, hK, hJ, hZ_⟩) ⟨Nat.le_of_ble_eq_true rfl, Nat.le_of_ble_eq_true rfl⟩ rfl hl.1 rfl (Nat.le_of_ble_eq_true rfl) ⟨by show _ ≤ 600000; omega, by show _ ≤ 7302250; omega⟩ dL_law_430 (fun v H1 locs1 hR hS hz hk => ?_)
  obtain ⟨L1, rfl, hC1, hx1⟩ := hR
  have hM1 := md_stay hM hk
  refine lv_aload_n hx hb dL_law_433 rfl (lv_at hl 2 rfl) ?_
  refine lv_aload_n hx hb dL_law_434 rfl (lv_at hl 0 rfl) ?_
  refine lv_iload_n hx hb dL_law_435 rfl (lv_at hl 3 rfl) ?_
  refine lv_iconst (v := 1) hx hb dL_law_436 (by decide) ?_
  refine lv_iadd hx hb dL_law_437 ?_
  rw [show nI (5 * i) + 1 = nI (5 * i + 1) from nI_add (5 * i) 1]
  refine va_sld hx hb hX hbl hbA hS (vp_in_nI (N := Ln) (by omega) (by omega)) dL_law_438 ?_
  rw [nI_clamp (n := 5 * i + 1) (by omega)]
  refine lv_aload_n hx hb dL_law_439 rfl (lv_at hl 0 rfl) ?_
  refine lv_iload_n hx hb dL_law_440 rfl (lv_at hl 3 rfl) ?_
  refine lv_iconst (v := 2) hx hb dL_law_441 (by decide) ?_
  refine lv_iadd hx hb dL_law_442 ?_
  rw [show nI (5 * i) + 2 = nI (5 * i + 2) from nI_add (5 * i) 2]
  refine va_sld hx hb hX hbl hbA hS (vp_in_nI (N := Ln) (by omega) (by omega)) dL_law_443 ?_
  rw [nI_clamp (n := 5 * i + 2) (by omega)]
  have hr2 : ∀ q, reg2 H1.size M q → s.heap.size ≤ q := fun q h => h.elim (fun ⟨t, ht, z⟩ => by rw [z]; exact hMn t ht) (fun z => Nat.le_trans hS.1 z)
  refine ct_V (As := [.int (xs (5 * i + 1)), .int (xs (5 * i + 2))]) (rest := [.int ((k_post σ (xs (5 * i + 1)) (xs (5 * i + 2))).1)]) hx hb hml hown hu hE hZ hS hr2 (fun q h => Or.inr h) (c_post l E (reg2 H1.size M) σ M (xs (5 * i + 1)) (xs (5 * i + 2))) kX11_post u949 (md_obj hM1) rfl rfl ⟨md_reA hM1 (fun t ht => Or.inl ⟨t, ht, rfl⟩), hI⟩ ⟨Nat.le_of_ble_eq_true rfl, Nat.le_of_ble_eq_true rfl⟩ rfl hl.1 rfl (Nat.le_of_ble_eq_true rfl) ⟨by show _ ≤ 600000; omega, by show _ ≤ 7302250; omega⟩ dL_law_444 (fun v H2 locs2 hR hS hz hk => ?_)
  obtain ⟨rfl, hM2⟩ := hR
  have hC2 := cd_stay hC1 hk
  have hop : OpOK (k_post σ (xs (5 * i + 1)) (xs (5 * i + 2))) (m_post σ (xs (5 * i + 1)) (xs (5 * i + 2))) := post_eq hV
  refine lv_icmp_eq (x := (k_post σ (xs (5 * i + 1)) (xs (5 * i + 2))).1) (y := (m_post σ (xs (5 * i + 1)) (xs (5 * i + 2))).1) (tgt := 969) hx hb dL_law_447 (by decide) (fun _ => ?_) (fun z => absurd hop.1 z)
  exact law_next hx hb hml hown hu hE hZ hX hbl hLn h5 ih ⟨by omega, by omega⟩ (⟨(k_post σ (xs (5 * i + 1)) (xs (5 * i + 2))).2, L1, hC2, md_ext (md_reA hM2 (fun _ _ => trivial)) hop.2.1, hop.2.2, hx1, rfl, hMn⟩) hS hl
set_option maxHeartbeats 4000000 in
set_option maxRecDepth 20000 in
theorem law_k8 {p : Program} {l : Launch} {e : Env} {s : State} {m : MethodId} {below : List Frame} {meth : Method} {c : Code} {b Ln x y i : Nat} {xs : Nat → Int32} {E : EV} {M : Nat → Nat} {H : Heap} {locs : List Loc} {ls : Array Slot} (hx : p.tables.exec = Jvm.exec) (hb : c.code = code) (hml : c.maxLocals = 4) (hown : s.vm.findClass R_law = some m.cls) (hu : ∀ w ∈ uw, w.before #[Value.ref b] s = true) (hE : evK E s) (hZ : evZ E (fun q => s.heap.size ≤ q) s s.heap) (hX : va_X b Ln xs s s.heap) (hbl : b < s.heap.size) (hLn : Ln ≤ 2560) (h5 : 5 * i + 5 ≤ Ln) (ih : lwIH p l e s m below meth c b x y E M (i + 1)) (hLI : LI E s.heap.size x y M H) (hS : va_S (fun q => s.heap.size ≤ q) s.heap H locs) (hl : lv_has ls 4 [(0, .ref b), (1, .ref x), (2, .ref y), (3, .int (nI (5 * i)))]) : W p l e room_1 s m #[Value.ref b] below meth c H locs (300 + 3 * i) (30000 + 500 * i) (lw_Z below #[Value.ref b] s) (F0 m 452 ls []) := by
  have hbA : ¬ s.heap.size ≤ b := by omega
  obtain ⟨σ, L, hC, hM, hV, hx0, hy0, hMn⟩ := hLI
  subst hx0
  subst hy0
  obtain ⟨hI, hL, hK, hJ, hZ_, hQ_, hKK, hO_, hD_, hF_, hW_, hN_, hB_⟩ := id hV
  have hr1 : ∀ q, H.size ≤ q → reg1 s.heap.size M q := fun q hq => ⟨Nat.le_trans hS.1 hq, fun t ht z => by have := md_lt hM ht; omega⟩
  refine lv_aload_n hx hb dL_law_452 rfl (lv_at hl 1 rfl) ?_
  refine lv_aload_n hx hb dL_law_453 rfl (lv_at hl 0 rfl) ?_
  refine lv_iload_n hx hb dL_law_454 rfl (lv_at hl 3 rfl) ?_
  refine lv_iconst (v := 1) hx hb dL_law_455 (by decide) ?_
  refine lv_iadd hx hb dL_law_456 ?_
  rw [show nI (5 * i) + 1 = nI (5 * i + 1) from nI_add (5 * i) 1]
  refine va_sld hx hb hX hbl hbA hS (vp_in_nI (N := Ln) (by omega) (by omega)) dL_law_457 ?_
  rw [nI_clamp (n := 5 * i + 1) (by omega)]
  refine ct_V (As := [.int (xs (5 * i + 1))]) (rest := []) hx hb hml hown hu hE hZ hS (fun _ h => h.1) hr1 (y_withdraw l E (reg1 s.heap.size M) σ L (xs (5 * i + 1))) kX10_withdraw u483 (cd_reg hC) rfl rfl (⟨hC, hI⟩) ⟨Nat.le_of_ble_eq_true rfl, Nat.le_of_ble_eq_true rfl⟩ rfl hl.1 rfl (Nat.le_of_ble_eq_true rfl) ⟨by show _ ≤ 600000; omega, by show _ ≤ 7302250; omega⟩ dL_law_458 (fun v H1 locs1 hR hS hz hk => ?_)
  obtain ⟨L1, rfl, hC1, hx1⟩ := hR
  have hM1 := md_stay hM hk
  refine lv_aload_n hx hb dL_law_461 rfl (lv_at hl 2 rfl) ?_
  refine lv_aload_n hx hb dL_law_462 rfl (lv_at hl 0 rfl) ?_
  refine lv_iload_n hx hb dL_law_463 rfl (lv_at hl 3 rfl) ?_
  refine lv_iconst (v := 1) hx hb dL_law_464 (by decide) ?_
  refine lv_iadd hx hb dL_law_465 ?_
  rw [show nI (5 * i) + 1 = nI (5 * i + 1) from nI_add (5 * i) 1]
  refine va_sld hx hb hX hbl hbA hS (vp_in_nI (N := Ln) (by omega) (by omega)) dL_law_466 ?_
  rw [nI_clamp (n := 5 * i + 1) (by omega)]
  have hr2 : ∀ q, reg2 H1.size M q → s.heap.size ≤ q := fun q h => h.elim (fun ⟨t, ht, z⟩ => by rw [z]; exact hMn t ht) (fun z => Nat.le_trans hS.1 z)
  refine ct_V (As := [.int (xs (5 * i + 1))]) (rest := [.int ((k_withdraw σ (xs (5 * i + 1))).1)]) hx hb hml hown hu hE hZ hS hr2 (fun q h => Or.inr h) (c_withdraw l E (reg2 H1.size M) σ M (xs (5 * i + 1))) kX11_withdraw u953 (md_obj hM1) rfl rfl ⟨md_reA hM1 (fun t ht => Or.inl ⟨t, ht, rfl⟩), hI⟩ ⟨Nat.le_of_ble_eq_true rfl, Nat.le_of_ble_eq_true rfl⟩ rfl hl.1 rfl (Nat.le_of_ble_eq_true rfl) ⟨by show _ ≤ 600000; omega, by show _ ≤ 7302250; omega⟩ dL_law_467 (fun v H2 locs2 hR hS hz hk => ?_)
  obtain ⟨rfl, hM2⟩ := hR
  have hC2 := cd_stay hC1 hk
  have hop : OpOK (k_withdraw σ (xs (5 * i + 1))) (m_withdraw σ (xs (5 * i + 1))) := withdraw_eq hV
  refine lv_icmp_eq (x := (k_withdraw σ (xs (5 * i + 1))).1) (y := (m_withdraw σ (xs (5 * i + 1))).1) (tgt := 969) hx hb dL_law_470 (by decide) (fun _ => ?_) (fun z => absurd hop.1 z)
  exact law_next hx hb hml hown hu hE hZ hX hbl hLn h5 ih ⟨by omega, by omega⟩ (⟨(k_withdraw σ (xs (5 * i + 1))).2, L1, hC2, md_ext (md_reA hM2 (fun _ _ => trivial)) hop.2.1, hop.2.2, hx1, rfl, hMn⟩) hS hl
