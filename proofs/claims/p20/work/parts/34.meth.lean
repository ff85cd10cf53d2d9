/-! the law's methods: what they look at -/
set_option maxHeartbeats 4000000 in
set_option maxRecDepth 100000 in
theorem c_L_areTilesSo (l : Launch) (D : va_G) (cy : Nat → ClassId) (a q : Nat → Nat) (uw : Int32) (g : Nat → Option Nat) (J : Prop) (k9 : Int32) (fs : Nat → Int64) (L : List Nat) (fd : Nat → Int32) (C : List Int64) (fc : Nat → Int64) (P : List Int64) (fp : Nat → Int64) (hg : g 0 = some (q 0)) (hJ : J) (hL : hN L fd) (ho : okD L) (hf : hC C fc) (hC6 : C.length ≤ 6) (hpp : hC P fp) (hP6 : P.length ≤ 6) : Met l yL_areTilesSo wsL_areTilesSo ({ frames := 5, cells := 0, slots := 0, locals := 116 } : Room) (va_Pc [.ref (a 0), .int (nI 0)] (gR D (gT cy) [(a 0, eTop (a 1) (a 3) (a 5) (a 6) uw), (a 5, eQ cy 2 g), (q 0, eCli (gb (J)) (q 1) (q 3) (q 5) (q 7) (nI L.length) (q 8) (q 9) k9), (q 7, eI cy 12 fd), (a 1, eScr (a 2)), (a 2, eJ cy 12 fs), (q 3, eCch (q 4) (nI P.length)), (q 4, eJ cy 6 fp), (q 5, eCch (q 6) (nI C.length)), (q 6, eJ cy 6 fc)])) (vp_Si (fun r9 => r9 = nI 1)) 0 0 (fun _ => False) := by
  refine gM_i (cc := cL_areTilesSo) (maxL := 11) (ty := .boolean) (by decide) rfl (Nat.le_of_ble_eq_true rfl) (fun v hv => by rw [hv]; first | rfl | exact gb_nar _) ?_
  intro pp ee ss mm bw mt cd QQ ls hfx hP hG hret hl
  obtain ⟨hx, hb, hml, hown, hts, hlocks⟩ := hfx
  have hown : ss.vm.findClass RL = some mm.cls := hown
  have hl : lv_has ls 11 [(0, .ref (a 0)), (1, .int (nI 0))] := hl
  have z1 := okD_len ho
  refine lv_iconst (v := nI 0) hx hb dL_areTilesSo_0 (by decide) ?_
  refine lv_istore_n (lv' := [(2, .int (nI 0)), (0, .ref (a 0)), (1, .int (nI 0))]) hx hb dL_areTilesSo_1 rfl hl (by decide) rfl (fun ls hl => ?_)
  refine lv_iconst (v := nI 0) hx hb dL_areTilesSo_2 (by decide) ?_
  refine lv_istore_n (lv' := [(3, .int (nI 0)), (2, .int (nI 0)), (0, .ref (a 0)), (1, .int (nI 0))]) hx hb dL_areTilesSo_3 rfl hl (by decide) rfl (fun ls hl => ?_)
  have loop_4 : ∀ (n9 : Nat) (k : Nat), L.length - k < n9 → (k ≤ L.length) → ∀ (ls : Array Slot), lv_has ls 11 [(0, .ref (a 0)), (1, .int (nI 0)), (2, .int (nI (metD L k))), (3, .int (nI k))] → W pp l ee ({ frames := 5, cells := 0, slots := 0, locals := 116 } : Room) ss mm ([.ref (a 0), .int (nI 0)] : List Value).toArray bw mt cd ss.heap [] 0 0 QQ (F0 mm 4 ls []) := by
    intro n9
    induction n9 with
    | zero => intro k h9; exact absurd h9 (Nat.not_lt_zero _)
    | succ n9 ih_4 =>
      intro k hm_4 hk ls hl
      refine lv_iload_n hx hb dL_areTilesSo_4 rfl (lv_at hl 3 rfl) ?_
      refine lv_aload_n hx hb dL_areTilesSo_5 rfl (lv_at hl 0 rfl) ?_
      refine lv_iload_n hx hb dL_areTilesSo_6 rfl (lv_at hl 1 rfl) ?_
      refine gc_Si (va_runV (As := [.int (nI 0)]) (rest := [.int (nI k)]) ⟨hx, hb, hml, hown, hts⟩ (c_X3_dirty l D cy a q uw g J (nI L.length) k9 0 (by decide) hg hJ) (cwV 1 hts gL_areTilesSo_X3_dirty rfl rfl rfl (by decide +kernel) ⟨Nat.le_of_ble_eq_true rfl, Nat.le_of_ble_eq_true rfl⟩) (gpVR (ci := 3) (q0 := 0) hG (hP.sub [0, 1, 2] rfl) rfl rfl) rfl rfl hl.1 rfl (lv_room (Nat.le_of_ble_eq_true rfl)) dL_areTilesSo_7 ⟨Nat.zero_le _, Nat.zero_le _⟩) ?_
      refine lv_icmp_ge (tgt := 58) hx hb dL_areTilesSo_10 (by decide) (fun c_10 => ?_) (fun c_10 => ?_)
      · skip
        have c_10 : L.length ≤ k := (nI_leI (a := L.length) (b := k) (by omega) (by omega)).mp c_10
        refine lv_iconst (v := nI 0) hx hb dL_areTilesSo_58 (by decide) ?_
        refine lv_istore_n (lv' := [(3, .int (nI 0)), (0, .ref (a 0)), (1, .int (nI 0)), (2, .int (nI (metD L k)))]) hx hb dL_areTilesSo_59 rfl hl (by decide) rfl (fun ls hl => ?_)
        have loop_60 : ∀ (n9 : Nat) (t : Nat), 12 - t < n9 → (t ≤ 12) → ∀ (ls : Array Slot), lv_has ls 11 [(0, .ref (a 0)), (1, .int (nI 0)), (3, .int (nI t))] → W pp l ee ({ frames := 5, cells := 0, slots := 0, locals := 116 } : Room) ss mm ([.ref (a 0), .int (nI 0)] : List Value).toArray bw mt cd ss.heap [] 0 0 QQ (F0 mm 60 ls []) := by
          intro n9
          induction n9 with
          | zero => intro t h9; exact absurd h9 (Nat.not_lt_zero _)
          | succ n9 ih_60 =>
            intro t hm_60 ht9 ls hl
            refine lv_iload_n hx hb dL_areTilesSo_60 rfl (lv_at hl 2 rfl) ?_
            refine lv_bipush (v := nI 12) hx hb dL_areTilesSo_61 (by decide) ?_
            refine lv_icmp_ge (tgt := 271) hx hb dL_areTilesSo_63 (by decide) (fun c_63 => ?_) (fun c_63 => ?_)
            · skip
              have c_63 : 12 ≤ t := (nI_leI (a := 12) (b := t) (by omega) (by omega)).mp c_63
              refine lv_aload_n hx hb dL_areTilesSo_271 rfl (lv_at hl 0 rfl) ?_
              refine lv_iload_n hx hb dL_areTilesSo_272 rfl (lv_at hl 1 rfl) ?_
              refine gc_Si (va_runV (As := [.int (nI 0)]) (rest := []) ⟨hx, hb, hml, hown, hts⟩ (c_X3_cached l D cy a q uw g J (nI L.length) k9 0 0 fp P (by decide) hg hJ hpp hP6) (cwV 1 hts gL_areTilesSo_X3_cached rfl rfl rfl (by decide +kernel) ⟨Nat.le_of_ble_eq_true rfl, Nat.le_of_ble_eq_true rfl⟩) (gpVR (ci := 3) (q0 := 0) hG (hP.sub [0, 1, 2, 6, 7] rfl) rfl rfl) rfl rfl hl.1 rfl (lv_room (Nat.le_of_ble_eq_true rfl)) dL_areTilesSo_273 ⟨Nat.zero_le _, Nat.zero_le _⟩) ?_
              refine lv_if_lt (tgt := 293) hx hb dL_areTilesSo_276 (by decide) (fun c_276 => ?_) (fun c_276 => ?_)
              · skip
                have c_276 : P.length < 0 := (nI_ltI (a := P.length) (b := 0) (by omega) (by omega)).mp c_276
                exact absurd c_276 (Nat.not_lt_zero _)
              · skip
                have c_276 : ¬ P.length < 0 := fun z => c_276 ((nI_ltI (a := P.length) (b := 0) (by omega) (by omega)).mpr z)
                refine lv_aload_n hx hb dL_areTilesSo_279 rfl (lv_at hl 0 rfl) ?_
                refine lv_iload_n hx hb dL_areTilesSo_280 rfl (lv_at hl 1 rfl) ?_
                refine gc_Si (va_runV (As := [.int (nI 0)]) (rest := []) ⟨hx, hb, hml, hown, hts⟩ (c_X3_cached l D cy a q uw g J (nI L.length) k9 0 0 fp P (by decide) hg hJ hpp hP6) (cwV 1 hts gL_areTilesSo_X3_cached rfl rfl rfl (by decide +kernel) ⟨Nat.le_of_ble_eq_true rfl, Nat.le_of_ble_eq_true rfl⟩) (gpVR (ci := 3) (q0 := 0) hG (hP.sub [0, 1, 2, 6, 7] rfl) rfl rfl) rfl rfl hl.1 rfl (lv_room (Nat.le_of_ble_eq_true rfl)) dL_areTilesSo_281 ⟨Nat.zero_le _, Nat.zero_le _⟩) ?_
                refine lv_bipush (v := nI 6) hx hb dL_areTilesSo_284 (by decide) ?_
                refine lv_icmp_gt (tgt := 293) hx hb dL_areTilesSo_286 (by decide) (fun c_286 => ?_) (fun c_286 => ?_)
                · skip
                  have c_286 : 6 < P.length := (nI_ltI (a := 6) (b := P.length) (by omega) (by omega)).mp c_286
                  exact absurd c_286 (by omega)
                · skip
                  have c_286 : ¬ 6 < P.length := fun z => c_286 ((nI_ltI (a := 6) (b := P.length) (by omega) (by omega)).mpr z)
                  refine lv_iconst (v := nI 1) hx hb dL_areTilesSo_289 (by decide) ?_
                  refine lv_goto (tgt := 294) hx hb dL_areTilesSo_290 (by decide) ?_
                  exact hret _ _ _ dL_areTilesSo_294 rfl
            · skip
              have c_63 : ¬ 12 ≤ t := fun z => c_63 ((nI_leI (a := 12) (b := t) (by omega) (by omega)).mpr z)
              obtain ⟨t1, t2, t3, t4, t5, t6, t7, t8, t9, t0⟩ := tile_ok C (fs t)
              have z3 := wayO_le C (fs t)
              refine lv_aload_n hx hb dL_areTilesSo_66 rfl (lv_at hl 0 rfl) ?_
              refine lv_iload_n hx hb dL_areTilesSo_67 rfl (lv_at hl 2 rfl) ?_
              refine gc_Si (va_runV (As := [.int (nI t)]) (rest := []) ⟨hx, hb, hml, hown, hts⟩ (c_X3_colours l D cy a uw fs t (by omega)) (cwV 1 hts gL_areTilesSo_X3_colours rfl rfl rfl (by decide +kernel) ⟨Nat.le_of_ble_eq_true rfl, Nat.le_of_ble_eq_true rfl⟩) (gpVR (ci := 3) (q0 := 0) hG (hP.sub [0, 4, 5] rfl) rfl rfl) rfl rfl hl.1 rfl (lv_room (Nat.le_of_ble_eq_true rfl)) dL_areTilesSo_68 ⟨Nat.zero_le _, Nat.zero_le _⟩) ?_
              refine lv_istore (lv' := [(4, .int (nI (nCol (fs t)))), (0, .ref (a 0)), (1, .int (nI 0)), (3, .int (nI t))]) hx hb dL_areTilesSo_71 hl (by decide) rfl (fun ls hl => ?_)
              refine lv_aload_n hx hb dL_areTilesSo_73 rfl (lv_at hl 1 rfl) ?_
              refine lv_iload_n hx hb dL_areTilesSo_74 rfl (lv_at hl 3 rfl) ?_
              refine gc_Si (va_runV (As := [.int (nI t)]) (rest := []) ⟨hx, hb, hml, hown, hts⟩ (c_X3_runs l D cy a uw fs t (by omega)) (cwV 1 hts gL_areTilesSo_X3_runs rfl rfl rfl (by decide +kernel) ⟨Nat.le_of_ble_eq_true rfl, Nat.le_of_ble_eq_true rfl⟩) (gpVR (ci := 3) (q0 := 0) hG (hP.sub [0, 4, 5] rfl) rfl rfl) rfl rfl hl.1 rfl (lv_room (Nat.le_of_ble_eq_true rfl)) dL_areTilesSo_75 ⟨Nat.zero_le _, Nat.zero_le _⟩) ?_
              refine lv_istore (lv' := [(5, .int (nI (nRun (fs t)))), (4, .int (nI (nCol (fs t)))), (0, .ref (a 0)), (1, .int (nI 0)), (3, .int (nI t))]) hx hb dL_areTilesSo_78 hl (by decide) rfl (fun ls hl => ?_)
              refine lv_aload_n hx hb dL_areTilesSo_80 rfl (lv_at hl 2 rfl) ?_
              refine lv_iload_n hx hb dL_areTilesSo_81 rfl (lv_at hl 3 rfl) ?_
              refine lv_iload_n hx hb dL_areTilesSo_82 rfl (lv_at hl 4 rfl) ?_
              refine gc_Si (va_runV (As := [.int (nI 0), .int (nI t)]) (rest := []) ⟨hx, hb, hml, hown, hts⟩ (c_X3_way l D cy a q uw g J (nI L.length) k9 0 fs t C fc (by decide) hg hJ (by omega) hf hC6) (cwV 2 hts gL_areTilesSo_X3_way rfl rfl rfl (by decide +kernel) ⟨Nat.le_of_ble_eq_true rfl, Nat.le_of_ble_eq_true rfl⟩) (gpVR (ci := 3) (q0 := 0) hG (hP.sub [0, 1, 2, 4, 5, 8, 9] rfl) rfl rfl) rfl rfl hl.1 rfl (lv_room (Nat.le_of_ble_eq_true rfl)) dL_areTilesSo_83 ⟨Nat.zero_le _, Nat.zero_le _⟩) ?_
              refine lv_istore (lv' := [(6, .int (nI (wayO C (fs t)))), (5, .int (nI (nRun (fs t)))), (4, .int (nI (nCol (fs t)))), (0, .ref (a 0)), (1, .int (nI 0)), (3, .int (nI t))]) hx hb dL_areTilesSo_86 hl (by decide) rfl (fun ls hl => ?_)
              refine lv_iload hx hb dL_areTilesSo_88 (lv_at hl 0 rfl) ?_
              refine lv_bipush (v := nI 100) hx hb dL_areTilesSo_90 (by decide) ?_
              refine lv_irem hx hb dL_areTilesSo_92 (nI_ne0 (by omega) (by omega)) ?_
              refine g_ti (y := nI ((wayO C (fs t)) % 100)) (pk_rem (by omega) (by omega) (by omega)) ?_
              refine lv_istore (lv' := [(7, .int (nI ((wayO C (fs t)) % 100))), (6, .int (nI (wayO C (fs t)))), (5, .int (nI (nRun (fs t)))), (4, .int (nI (nCol (fs t)))), (0, .ref (a 0)), (1, .int (nI 0)), (3, .int (nI t))]) hx hb dL_areTilesSo_93 hl (by decide) rfl (fun ls hl => ?_)
              refine lv_iconst (v := nI 1) hx hb dL_areTilesSo_95 (by decide) ?_
              refine lv_iconst (v := nI 2) hx hb dL_areTilesSo_96 (by decide) ?_
              refine lv_iload hx hb dL_areTilesSo_97 (lv_at hl 2 rfl) ?_
              refine lv_imul hx hb dL_areTilesSo_99 ?_
              refine g_ti (y := nI (2 * (nRun (fs t)))) (pk_mul _ _) ?_
              refine lv_iadd hx hb dL_areTilesSo_100 ?_
              refine g_ti (y := nI (1 + (2 * (nRun (fs t))))) (nI_add _ _) ?_
              refine lv_bipush (v := nI 17) hx hb dL_areTilesSo_101 (by decide) ?_
              have join_117 : ∀ (p : Nat), (p = min (1 + 2 * nRun (fs t)) 17) → ∀ (ls : Array Slot), lv_has ls 11 [(0, .ref (a 0)), (1, .int (nI 0)), (3, .int (nI t)), (4, .int (nI (nCol (fs t)))), (5, .int (nI (nRun (fs t)))), (6, .int (nI (wayO C (fs t)))), (7, .int (nI (wayO C (fs t) % 100)))] → W pp l ee ({ frames := 5, cells := 0, slots := 0, locals := 116 } : Room) ss mm ([.ref (a 0), .int (nI 0)] : List Value).toArray bw mt cd ss.heap [] 0 0 QQ (F0 mm 117 ls [.int (nI p)]) := by
                intro p hp9 ls hl
                refine lv_istore (lv' := [(8, .int (nI p)), (0, .ref (a 0)), (1, .int (nI 0)), (3, .int (nI t)), (4, .int (nI (nCol (fs t)))), (5, .int (nI (nRun (fs t)))), (6, .int (nI (wayO C (fs t)))), (7, .int (nI (wayO C (fs t) % 100)))]) hx hb dL_areTilesSo_117 hl (by decide) rfl (fun ls hl => ?_)
                have join_164 : ∀ (b9 : Nat), (b9 = ubL (nCol (fs t))) → ∀ (ls : Array Slot), lv_has ls 11 [(0, .ref (a 0)), (1, .int (nI 0)), (3, .int (nI t)), (4, .int (nI (nCol (fs t)))), (5, .int (nI (nRun (fs t)))), (6, .int (nI (wayO C (fs t)))), (7, .int (nI (wayO C (fs t) % 100))), (8, .int (nI p))] → W pp l ee ({ frames := 5, cells := 0, slots := 0, locals := 116 } : Room) ss mm ([.ref (a 0), .int (nI 0)] : List Value).toArray bw mt cd ss.heap [] 0 0 QQ (F0 mm 164 ls [.int (nI b9)]) := by
                  intro b9 hb9 ls hl
                  have hb8 : b9 ≤ 17 := by rw [hb9]; unfold ubL; (repeat' split) <;> omega
                  refine lv_istore (lv' := [(9, .int (nI b9)), (0, .ref (a 0)), (1, .int (nI 0)), (3, .int (nI t)), (4, .int (nI (nCol (fs t)))), (5, .int (nI (nRun (fs t)))), (6, .int (nI (wayO C (fs t)))), (7, .int (nI (wayO C (fs t) % 100))), (8, .int (nI p))]) hx hb dL_areTilesSo_164 hl (by decide) rfl (fun ls hl => ?_)
                  have join_180 : ∀ (m : Nat), (m = min p b9) → ∀ (ls : Array Slot), lv_has ls 11 [(0, .ref (a 0)), (1, .int (nI 0)), (3, .int (nI t)), (4, .int (nI (nCol (fs t)))), (5, .int (nI (nRun (fs t)))), (6, .int (nI (wayO C (fs t)))), (7, .int (nI (wayO C (fs t) % 100)))] → W pp l ee ({ frames := 5, cells := 0, slots := 0, locals := 116 } : Room) ss mm ([.ref (a 0), .int (nI 0)] : List Value).toArray bw mt cd ss.heap [] 0 0 QQ (F0 mm 180 ls [.int (nI m)]) := by
                    intro m hm9 ls hl
                    refine lv_istore (lv' := [(10, .int (nI m)), (0, .ref (a 0)), (1, .int (nI 0)), (3, .int (nI t)), (4, .int (nI (nCol (fs t)))), (5, .int (nI (nRun (fs t)))), (6, .int (nI (wayO C (fs t)))), (7, .int (nI (wayO C (fs t) % 100)))]) hx hb dL_areTilesSo_180 hl (by decide) rfl (fun ls hl => ?_)
                    refine lv_iload hx hb dL_areTilesSo_182 (lv_at hl 5 rfl) ?_
                    refine lv_iload hx hb dL_areTilesSo_184 (lv_at hl 4 rfl) ?_
                    refine lv_icmp_lt (tgt := 263) hx hb dL_areTilesSo_186 (by decide) (fun c_186 => ?_) (fun c_186 => ?_)
                    · skip
                      have c_186 : (nRun (fs t)) < (nCol (fs t)) := (nI_ltI (a := (nRun (fs t))) (b := (nCol (fs t))) (by omega) (by omega)).mp c_186
                      exact absurd c_186 (by omega)
                    · skip
                      have c_186 : ¬ (nRun (fs t)) < (nCol (fs t)) := fun z => c_186 ((nI_ltI (a := (nRun (fs t))) (b := (nCol (fs t))) (by omega) (by omega)).mpr z)
                      refine lv_iload hx hb dL_areTilesSo_189 (lv_at hl 5 rfl) ?_
                      refine lv_bipush (v := nI 16) hx hb dL_areTilesSo_191 (by decide) ?_
                      refine lv_icmp_gt (tgt := 263) hx hb dL_areTilesSo_193 (by decide) (fun c_193 => ?_) (fun c_193 => ?_)
                      · skip
                        have c_193 : 16 < (nRun (fs t)) := (nI_ltI (a := 16) (b := (nRun (fs t))) (by omega) (by omega)).mp c_193
                        exact absurd c_193 (by omega)
                      · skip
                        have c_193 : ¬ 16 < (nRun (fs t)) := fun z => c_193 ((nI_ltI (a := 16) (b := (nRun (fs t))) (by omega) (by omega)).mpr z)
                        refine lv_iload hx hb dL_areTilesSo_196 (lv_at hl 6 rfl) ?_
                        refine lv_bipush (v := nI 100) hx hb dL_areTilesSo_198 (by decide) ?_
                        refine lv_icmp_ge (tgt := 212) hx hb dL_areTilesSo_200 (by decide) (fun c_200 => ?_) (fun c_200 => ?_)
                        · skip
                          have c_200 : 100 ≤ (wayO C (fs t)) := (nI_leI (a := 100) (b := (wayO C (fs t))) (by omega) (by omega)).mp c_200
                          refine lv_iload hx hb dL_areTilesSo_212 (lv_at hl 7 rfl) ?_
                          refine lv_iload hx hb dL_areTilesSo_214 (lv_at hl 0 rfl) ?_
                          refine lv_icmp_ne (tgt := 263) hx hb dL_areTilesSo_216 (by decide) (fun c_216 => ?_) (fun c_216 => ?_)
                          · skip
                            have c_216 : ¬ (wayO C (fs t) % 100) = m := fun z => c_216 ((nI_eq (a := (wayO C (fs t) % 100)) (b := m) (by omega) (by omega)).mpr z)
                            exact absurd (by rw [hm9, hp9, hb9]; exact t5 c_200) c_216
                          · skip
                            have c_216 : (wayO C (fs t) % 100) = m := (nI_eq (a := (wayO C (fs t) % 100)) (b := m) (by omega) (by omega)).mp c_216
                            refine lv_iload hx hb dL_areTilesSo_219 (lv_at hl 6 rfl) ?_
                            refine lv_bipush (v := nI 100) hx hb dL_areTilesSo_221 (by decide) ?_
                            refine lv_idiv hx hb dL_areTilesSo_223 (nI_ne0 (by omega) (by omega)) ?_
                            refine g_ti (y := nI ((wayO C (fs t)) / 100)) (pk_div (by omega) (by omega) (by omega)) ?_
                            refine lv_iconst (v := nI 1) hx hb dL_areTilesSo_224 (by decide) ?_
                            refine lv_icmp_ne (tgt := 234) hx hb dL_areTilesSo_225 (by decide) (fun c_225 => ?_) (fun c_225 => ?_)
                            · skip
                              have c_225 : ¬ ((wayO C (fs t)) / 100) = 1 := fun z => c_225 ((nI_eq (a := ((wayO C (fs t)) / 100)) (b := 1) (by omega) (by omega)).mpr z)
                              refine lv_iload hx hb dL_areTilesSo_234 (lv_at hl 6 rfl) ?_
                              refine lv_bipush (v := nI 100) hx hb dL_areTilesSo_236 (by decide) ?_
                              refine lv_idiv hx hb dL_areTilesSo_238 (nI_ne0 (by omega) (by omega)) ?_
                              refine g_ti (y := nI ((wayO C (fs t)) / 100)) (pk_div (by omega) (by omega) (by omega)) ?_
                              refine lv_iconst (v := nI 3) hx hb dL_areTilesSo_239 (by decide) ?_
                              refine lv_icmp_ne (tgt := 254) hx hb dL_areTilesSo_240 (by decide) (fun c_240 => ?_) (fun c_240 => ?_)
                              · skip
                                have c_240 : ¬ ((wayO C (fs t)) / 100) = 3 := fun z => c_240 ((nI_eq (a := ((wayO C (fs t)) / 100)) (b := 3) (by omega) (by omega)).mpr z)
                                refine lv_iload hx hb dL_areTilesSo_254 (lv_at hl 6 rfl) ?_
                                refine lv_bipush (v := nI 100) hx hb dL_areTilesSo_256 (by decide) ?_
                                refine lv_idiv hx hb dL_areTilesSo_258 (nI_ne0 (by omega) (by omega)) ?_
                                refine g_ti (y := nI ((wayO C (fs t)) / 100)) (pk_div (by omega) (by omega) (by omega)) ?_
                                refine lv_iconst (v := nI 4) hx hb dL_areTilesSo_259 (by decide) ?_
                                refine lv_icmp_le (tgt := 265) hx hb dL_areTilesSo_260 (by decide) (fun c_260 => ?_) (fun c_260 => ?_)
                                · skip
                                  have c_260 : ((wayO C (fs t)) / 100) ≤ 4 := (nI_leI (a := ((wayO C (fs t)) / 100)) (b := 4) (by omega) (by omega)).mp c_260
                                  refine lv_iinc (v := nI (t + 1)) (lv' := [(3, .int (nI (t + 1))), (10, .int (nI m)), (0, .ref (a 0)), (1, .int (nI 0)), (4, .int (nI (nCol (fs t)))), (5, .int (nI (nRun (fs t)))), (6, .int (nI (wayO C (fs t)))), (7, .int (nI (wayO C (fs t) % 100)))]) hx hb dL_areTilesSo_265 hl (k := 3) rfl (nI_1 _) (by decide) rfl (fun ls hl => ?_)
                                  refine lv_goto (tgt := 60) hx hb dL_areTilesSo_268 (by decide) ?_
                                  exact ih_60 (t + 1) (by omega) (by omega) _ (lv_sub hl [2, 3, 0] rfl)
                                · skip
                                  have c_260 : ¬ ((wayO C (fs t)) / 100) ≤ 4 := fun z => c_260 ((nI_leI (a := ((wayO C (fs t)) / 100)) (b := 4) (by omega) (by omega)).mpr z)
                                  exact absurd t8 c_260
                              · skip
                                have c_240 : ((wayO C (fs t)) / 100) = 3 := (nI_eq (a := ((wayO C (fs t)) / 100)) (b := 3) (by omega) (by omega)).mp c_240
                                refine lv_iload hx hb dL_areTilesSo_243 (lv_at hl 7 rfl) ?_
                                refine lv_iconst (v := nI 1) hx hb dL_areTilesSo_245 (by decide) ?_
                                refine lv_iconst (v := nI 2) hx hb dL_areTilesSo_246 (by decide) ?_
                                refine lv_iload hx hb dL_areTilesSo_247 (lv_at hl 5 rfl) ?_
                                refine lv_imul hx hb dL_areTilesSo_249 ?_
                                refine g_ti (y := nI (2 * (nRun (fs t)))) (pk_mul _ _) ?_
                                refine lv_iadd hx hb dL_areTilesSo_250 ?_
                                refine g_ti (y := nI (1 + (2 * (nRun (fs t))))) (nI_add _ _) ?_
                                refine lv_icmp_ne (tgt := 263) hx hb dL_areTilesSo_251 (by decide) (fun c_251 => ?_) (fun c_251 => ?_)
                                · skip
                                  have c_251 : ¬ (wayO C (fs t) % 100) = (1 + (2 * (nRun (fs t)))) := fun z => c_251 ((nI_eq (a := (wayO C (fs t) % 100)) (b := (1 + (2 * (nRun (fs t))))) (by omega) (by omega)).mpr z)
                                  exact absurd (t7 c_240) c_251
                                · skip
                                  have c_251 : (wayO C (fs t) % 100) = (1 + (2 * (nRun (fs t)))) := (nI_eq (a := (wayO C (fs t) % 100)) (b := (1 + (2 * (nRun (fs t))))) (by omega) (by omega)).mp c_251
                                  refine lv_iload hx hb dL_areTilesSo_254 (lv_at hl 6 rfl) ?_
                                  refine lv_bipush (v := nI 100) hx hb dL_areTilesSo_256 (by decide) ?_
                                  refine lv_idiv hx hb dL_areTilesSo_258 (nI_ne0 (by omega) (by omega)) ?_
                                  refine g_ti (y := nI ((wayO C (fs t)) / 100)) (pk_div (by omega) (by omega) (by omega)) ?_
                                  refine lv_iconst (v := nI 4) hx hb dL_areTilesSo_259 (by decide) ?_
                                  refine lv_icmp_le (tgt := 265) hx hb dL_areTilesSo_260 (by decide) (fun c_260 => ?_) (fun c_260 => ?_)
                                  · skip
                                    have c_260 : ((wayO C (fs t)) / 100) ≤ 4 := (nI_leI (a := ((wayO C (fs t)) / 100)) (b := 4) (by omega) (by omega)).mp c_260
                                    refine lv_iinc (v := nI (t + 1)) (lv' := [(3, .int (nI (t + 1))), (10, .int (nI m)), (0, .ref (a 0)), (1, .int (nI 0)), (4, .int (nI (nCol (fs t)))), (5, .int (nI (nRun (fs t)))), (6, .int (nI (wayO C (fs t)))), (7, .int (nI (wayO C (fs t) % 100)))]) hx hb dL_areTilesSo_265 hl (k := 3) rfl (nI_1 _) (by decide) rfl (fun ls hl => ?_)
                                    refine lv_goto (tgt := 60) hx hb dL_areTilesSo_268 (by decide) ?_
                                    exact ih_60 (t + 1) (by omega) (by omega) _ (lv_sub hl [2, 3, 0] rfl)
                                  · skip
                                    have c_260 : ¬ ((wayO C (fs t)) / 100) ≤ 4 := fun z => c_260 ((nI_leI (a := ((wayO C (fs t)) / 100)) (b := 4) (by omega) (by omega)).mpr z)
                                    exact absurd t8 c_260
                            · skip
                              have c_225 : ((wayO C (fs t)) / 100) = 1 := (nI_eq (a := ((wayO C (fs t)) / 100)) (b := 1) (by omega) (by omega)).mp c_225
                              refine lv_iload hx hb dL_areTilesSo_228 (lv_at hl 4 rfl) ?_
                              refine lv_iconst (v := nI 1) hx hb dL_areTilesSo_230 (by decide) ?_
                              refine lv_icmp_ne (tgt := 263) hx hb dL_areTilesSo_231 (by decide) (fun c_231 => ?_) (fun c_231 => ?_)
                              · skip
                                have c_231 : ¬ (nCol (fs t)) = 1 := fun z => c_231 ((nI_eq (a := (nCol (fs t))) (b := 1) (by omega) (by omega)).mpr z)
                                exact absurd (t6 c_225) c_231
                              · skip
                                have c_231 : (nCol (fs t)) = 1 := (nI_eq (a := (nCol (fs t))) (b := 1) (by omega) (by omega)).mp c_231
                                refine lv_iload hx hb dL_areTilesSo_234 (lv_at hl 6 rfl) ?_
                                refine lv_bipush (v := nI 100) hx hb dL_areTilesSo_236 (by decide) ?_
                                refine lv_idiv hx hb dL_areTilesSo_238 (nI_ne0 (by omega) (by omega)) ?_
                                refine g_ti (y := nI ((wayO C (fs t)) / 100)) (pk_div (by omega) (by omega) (by omega)) ?_
                                refine lv_iconst (v := nI 3) hx hb dL_areTilesSo_239 (by decide) ?_
                                refine lv_icmp_ne (tgt := 254) hx hb dL_areTilesSo_240 (by decide) (fun c_240 => ?_) (fun c_240 => ?_)
                                · skip
                                  have c_240 : ¬ ((wayO C (fs t)) / 100) = 3 := fun z => c_240 ((nI_eq (a := ((wayO C (fs t)) / 100)) (b := 3) (by omega) (by omega)).mpr z)
                                  refine lv_iload hx hb dL_areTilesSo_254 (lv_at hl 6 rfl) ?_
                                  refine lv_bipush (v := nI 100) hx hb dL_areTilesSo_256 (by decide) ?_
                                  refine lv_idiv hx hb dL_areTilesSo_258 (nI_ne0 (by omega) (by omega)) ?_
                                  refine g_ti (y := nI ((wayO C (fs t)) / 100)) (pk_div (by omega) (by omega) (by omega)) ?_
                                  refine lv_iconst (v := nI 4) hx hb dL_areTilesSo_259 (by decide) ?_
                                  refine lv_icmp_le (tgt := 265) hx hb dL_areTilesSo_260 (by decide) (fun c_260 => ?_) (fun c_260 => ?_)
                                  · skip
                                    have c_260 : ((wayO C (fs t)) / 100) ≤ 4 := (nI_leI (a := ((wayO C (fs t)) / 100)) (b := 4) (by omega) (by omega)).mp c_260
                                    refine lv_iinc (v := nI (t + 1)) (lv' := [(3, .int (nI (t + 1))), (10, .int (nI m)), (0, .ref (a 0)), (1, .int (nI 0)), (4, .int (nI (nCol (fs t)))), (5, .int (nI (nRun (fs t)))), (6, .int (nI (wayO C (fs t)))), (7, .int (nI (wayO C (fs t) % 100)))]) hx hb dL_areTilesSo_265 hl (k := 3) rfl (nI_1 _) (by decide) rfl (fun ls hl => ?_)
                                    refine lv_goto (tgt := 60) hx hb dL_areTilesSo_268 (by decide) ?_
                                    exact ih_60 (t + 1) (by omega) (by omega) _ (lv_sub hl [2, 3, 0] rfl)
                                  · skip
                                    have c_260 : ¬ ((wayO C (fs t)) / 100) ≤ 4 := fun z => c_260 ((nI_leI (a := ((wayO C (fs t)) / 100)) (b := 4) (by omega) (by omega)).mpr z)
                                    exact absurd t8 c_260
                                · skip
                                  have c_240 : ((wayO C (fs t)) / 100) = 3 := (nI_eq (a := ((wayO C (fs t)) / 100)) (b := 3) (by omega) (by omega)).mp c_240
                                  refine lv_iload hx hb dL_areTilesSo_243 (lv_at hl 7 rfl) ?_
                                  refine lv_iconst (v := nI 1) hx hb dL_areTilesSo_245 (by decide) ?_
                                  refine lv_iconst (v := nI 2) hx hb dL_areTilesSo_246 (by decide) ?_
                                  refine lv_iload hx hb dL_areTilesSo_247 (lv_at hl 5 rfl) ?_
                                  refine lv_imul hx hb dL_areTilesSo_249 ?_
                                  refine g_ti (y := nI (2 * (nRun (fs t)))) (pk_mul _ _) ?_
                                  refine lv_iadd hx hb dL_areTilesSo_250 ?_
                                  refine g_ti (y := nI (1 + (2 * (nRun (fs t))))) (nI_add _ _) ?_
                                  refine lv_icmp_ne (tgt := 263) hx hb dL_areTilesSo_251 (by decide) (fun c_251 => ?_) (fun c_251 => ?_)
                                  · skip
                                    have c_251 : ¬ (wayO C (fs t) % 100) = (1 + (2 * (nRun (fs t)))) := fun z => c_251 ((nI_eq (a := (wayO C (fs t) % 100)) (b := (1 + (2 * (nRun (fs t))))) (by omega) (by omega)).mpr z)
                                    exact absurd (t7 c_240) c_251
                                  · skip
                                    have c_251 : (wayO C (fs t) % 100) = (1 + (2 * (nRun (fs t)))) := (nI_eq (a := (wayO C (fs t) % 100)) (b := (1 + (2 * (nRun (fs t))))) (by omega) (by omega)).mp c_251
                                    refine lv_iload hx hb dL_areTilesSo_254 (lv_at hl 6 rfl) ?_
                                    refine lv_bipush (v := nI 100) hx hb dL_areTilesSo_256 (by decide) ?_
                                    refine lv_idiv hx hb dL_areTilesSo_258 (nI_ne0 (by omega) (by omega)) ?_
                                    refine g_ti (y := nI ((wayO C (fs t)) / 100)) (pk_div (by omega) (by omega) (by omega)) ?_
                                    refine lv_iconst (v := nI 4) hx hb dL_areTilesSo_259 (by decide) ?_
                                    refine lv_icmp_le (tgt := 265) hx hb dL_areTilesSo_260 (by decide) (fun c_260 => ?_) (fun c_260 => ?_)
                                    · skip
                                      have c_260 : ((wayO C (fs t)) / 100) ≤ 4 := (nI_leI (a := ((wayO C (fs t)) / 100)) (b := 4) (by omega) (by omega)).mp c_260
                                      refine lv_iinc (v := nI (t + 1)) (lv' := [(3, .int (nI (t + 1))), (10, .int (nI m)), (0, .ref (a 0)), (1, .int (nI 0)), (4, .int (nI (nCol (fs t)))), (5, .int (nI (nRun (fs t)))), (6, .int (nI (wayO C (fs t)))), (7, .int (nI (wayO C (fs t) % 100)))]) hx hb dL_areTilesSo_265 hl (k := 3) rfl (nI_1 _) (by decide) rfl (fun ls hl => ?_)
                                      refine lv_goto (tgt := 60) hx hb dL_areTilesSo_268 (by decide) ?_
                                      exact ih_60 (t + 1) (by omega) (by omega) _ (lv_sub hl [2, 3, 0] rfl)
                                    · skip
                                      have c_260 : ¬ ((wayO C (fs t)) / 100) ≤ 4 := fun z => c_260 ((nI_leI (a := ((wayO C (fs t)) / 100)) (b := 4) (by omega) (by omega)).mpr z)
                                      exact absurd t8 c_260
                        · skip
                          have c_200 : ¬ 100 ≤ (wayO C (fs t)) := fun z => c_200 ((nI_leI (a := 100) (b := (wayO C (fs t))) (by omega) (by omega)).mpr z)
                          refine lv_iload hx hb dL_areTilesSo_203 (lv_at hl 6 rfl) ?_
                          refine lv_iconst (v := nI 2) hx hb dL_areTilesSo_205 (by decide) ?_
                          refine lv_icmp_eq (tgt := 219) hx hb dL_areTilesSo_206 (by decide) (fun c_206 => ?_) (fun c_206 => ?_)
                          · skip
                            have c_206 : (wayO C (fs t)) = 2 := (nI_eq (a := (wayO C (fs t))) (b := 2) (by omega) (by omega)).mp c_206
                            refine lv_iload hx hb dL_areTilesSo_219 (lv_at hl 6 rfl) ?_
                            refine lv_bipush (v := nI 100) hx hb dL_areTilesSo_221 (by decide) ?_
                            refine lv_idiv hx hb dL_areTilesSo_223 (nI_ne0 (by omega) (by omega)) ?_
                            refine g_ti (y := nI ((wayO C (fs t)) / 100)) (pk_div (by omega) (by omega) (by omega)) ?_
                            refine lv_iconst (v := nI 1) hx hb dL_areTilesSo_224 (by decide) ?_
                            refine lv_icmp_ne (tgt := 234) hx hb dL_areTilesSo_225 (by decide) (fun c_225 => ?_) (fun c_225 => ?_)
                            · skip
                              have c_225 : ¬ ((wayO C (fs t)) / 100) = 1 := fun z => c_225 ((nI_eq (a := ((wayO C (fs t)) / 100)) (b := 1) (by omega) (by omega)).mpr z)
                              refine lv_iload hx hb dL_areTilesSo_234 (lv_at hl 6 rfl) ?_
                              refine lv_bipush (v := nI 100) hx hb dL_areTilesSo_236 (by decide) ?_
                              refine lv_idiv hx hb dL_areTilesSo_238 (nI_ne0 (by omega) (by omega)) ?_
                              refine g_ti (y := nI ((wayO C (fs t)) / 100)) (pk_div (by omega) (by omega) (by omega)) ?_
                              refine lv_iconst (v := nI 3) hx hb dL_areTilesSo_239 (by decide) ?_
                              refine lv_icmp_ne (tgt := 254) hx hb dL_areTilesSo_240 (by decide) (fun c_240 => ?_) (fun c_240 => ?_)
                              · skip
                                have c_240 : ¬ ((wayO C (fs t)) / 100) = 3 := fun z => c_240 ((nI_eq (a := ((wayO C (fs t)) / 100)) (b := 3) (by omega) (by omega)).mpr z)
                                refine lv_iload hx hb dL_areTilesSo_254 (lv_at hl 6 rfl) ?_
                                refine lv_bipush (v := nI 100) hx hb dL_areTilesSo_256 (by decide) ?_
                                refine lv_idiv hx hb dL_areTilesSo_258 (nI_ne0 (by omega) (by omega)) ?_
                                refine g_ti (y := nI ((wayO C (fs t)) / 100)) (pk_div (by omega) (by omega) (by omega)) ?_
                                refine lv_iconst (v := nI 4) hx hb dL_areTilesSo_259 (by decide) ?_
                                refine lv_icmp_le (tgt := 265) hx hb dL_areTilesSo_260 (by decide) (fun c_260 => ?_) (fun c_260 => ?_)
                                · skip
                                  have c_260 : ((wayO C (fs t)) / 100) ≤ 4 := (nI_leI (a := ((wayO C (fs t)) / 100)) (b := 4) (by omega) (by omega)).mp c_260
                                  refine lv_iinc (v := nI (t + 1)) (lv' := [(3, .int (nI (t + 1))), (10, .int (nI m)), (0, .ref (a 0)), (1, .int (nI 0)), (4, .int (nI (nCol (fs t)))), (5, .int (nI (nRun (fs t)))), (6, .int (nI (wayO C (fs t)))), (7, .int (nI (wayO C (fs t) % 100)))]) hx hb dL_areTilesSo_265 hl (k := 3) rfl (nI_1 _) (by decide) rfl (fun ls hl => ?_)
                                  refine lv_goto (tgt := 60) hx hb dL_areTilesSo_268 (by decide) ?_
                                  exact ih_60 (t + 1) (by omega) (by omega) _ (lv_sub hl [2, 3, 0] rfl)
                                · skip
                                  have c_260 : ¬ ((wayO C (fs t)) / 100) ≤ 4 := fun z => c_260 ((nI_leI (a := ((wayO C (fs t)) / 100)) (b := 4) (by omega) (by omega)).mpr z)
                                  exact absurd t8 c_260
                              · skip
                                have c_240 : ((wayO C (fs t)) / 100) = 3 := (nI_eq (a := ((wayO C (fs t)) / 100)) (b := 3) (by omega) (by omega)).mp c_240
                                refine lv_iload hx hb dL_areTilesSo_243 (lv_at hl 7 rfl) ?_
                                refine lv_iconst (v := nI 1) hx hb dL_areTilesSo_245 (by decide) ?_
                                refine lv_iconst (v := nI 2) hx hb dL_areTilesSo_246 (by decide) ?_
                                refine lv_iload hx hb dL_areTilesSo_247 (lv_at hl 5 rfl) ?_
                                refine lv_imul hx hb dL_areTilesSo_249 ?_
                                refine g_ti (y := nI (2 * (nRun (fs t)))) (pk_mul _ _) ?_
                                refine lv_iadd hx hb dL_areTilesSo_250 ?_
                                refine g_ti (y := nI (1 + (2 * (nRun (fs t))))) (nI_add _ _) ?_
                                refine lv_icmp_ne (tgt := 263) hx hb dL_areTilesSo_251 (by decide) (fun c_251 => ?_) (fun c_251 => ?_)
                                · skip
                                  have c_251 : ¬ (wayO C (fs t) % 100) = (1 + (2 * (nRun (fs t)))) := fun z => c_251 ((nI_eq (a := (wayO C (fs t) % 100)) (b := (1 + (2 * (nRun (fs t))))) (by omega) (by omega)).mpr z)
                                  exact absurd (t7 c_240) c_251
                                · skip
                                  have c_251 : (wayO C (fs t) % 100) = (1 + (2 * (nRun (fs t)))) := (nI_eq (a := (wayO C (fs t) % 100)) (b := (1 + (2 * (nRun (fs t))))) (by omega) (by omega)).mp c_251
                                  refine lv_iload hx hb dL_areTilesSo_254 (lv_at hl 6 rfl) ?_
                                  refine lv_bipush (v := nI 100) hx hb dL_areTilesSo_256 (by decide) ?_
                                  refine lv_idiv hx hb dL_areTilesSo_258 (nI_ne0 (by omega) (by omega)) ?_
                                  refine g_ti (y := nI ((wayO C (fs t)) / 100)) (pk_div (by omega) (by omega) (by omega)) ?_
                                  refine lv_iconst (v := nI 4) hx hb dL_areTilesSo_259 (by decide) ?_
                                  refine lv_icmp_le (tgt := 265) hx hb dL_areTilesSo_260 (by decide) (fun c_260 => ?_) (fun c_260 => ?_)
                                  · skip
                                    have c_260 : ((wayO C (fs t)) / 100) ≤ 4 := (nI_leI (a := ((wayO C (fs t)) / 100)) (b := 4) (by omega) (by omega)).mp c_260
                                    refine lv_iinc (v := nI (t + 1)) (lv' := [(3, .int (nI (t + 1))), (10, .int (nI m)), (0, .ref (a 0)), (1, .int (nI 0)), (4, .int (nI (nCol (fs t)))), (5, .int (nI (nRun (fs t)))), (6, .int (nI (wayO C (fs t)))), (7, .int (nI (wayO C (fs t) % 100)))]) hx hb dL_areTilesSo_265 hl (k := 3) rfl (nI_1 _) (by decide) rfl (fun ls hl => ?_)
                                    refine lv_goto (tgt := 60) hx hb dL_areTilesSo_268 (by decide) ?_
                                    exact ih_60 (t + 1) (by omega) (by omega) _ (lv_sub hl [2, 3, 0] rfl)
                                  · skip
                                    have c_260 : ¬ ((wayO C (fs t)) / 100) ≤ 4 := fun z => c_260 ((nI_leI (a := ((wayO C (fs t)) / 100)) (b := 4) (by omega) (by omega)).mpr z)
                                    exact absurd t8 c_260
                            · skip
                              have c_225 : ((wayO C (fs t)) / 100) = 1 := (nI_eq (a := ((wayO C (fs t)) / 100)) (b := 1) (by omega) (by omega)).mp c_225
                              refine lv_iload hx hb dL_areTilesSo_228 (lv_at hl 4 rfl) ?_
                              refine lv_iconst (v := nI 1) hx hb dL_areTilesSo_230 (by decide) ?_
                              refine lv_icmp_ne (tgt := 263) hx hb dL_areTilesSo_231 (by decide) (fun c_231 => ?_) (fun c_231 => ?_)
                              · skip
                                have c_231 : ¬ (nCol (fs t)) = 1 := fun z => c_231 ((nI_eq (a := (nCol (fs t))) (b := 1) (by omega) (by omega)).mpr z)
                                exact absurd (t6 c_225) c_231
                              · skip
                                have c_231 : (nCol (fs t)) = 1 := (nI_eq (a := (nCol (fs t))) (b := 1) (by omega) (by omega)).mp c_231
                                refine lv_iload hx hb dL_areTilesSo_234 (lv_at hl 6 rfl) ?_
                                refine lv_bipush (v := nI 100) hx hb dL_areTilesSo_236 (by decide) ?_
                                refine lv_idiv hx hb dL_areTilesSo_238 (nI_ne0 (by omega) (by omega)) ?_
                                refine g_ti (y := nI ((wayO C (fs t)) / 100)) (pk_div (by omega) (by omega) (by omega)) ?_
                                refine lv_iconst (v := nI 3) hx hb dL_areTilesSo_239 (by decide) ?_
                                refine lv_icmp_ne (tgt := 254) hx hb dL_areTilesSo_240 (by decide) (fun c_240 => ?_) (fun c_240 => ?_)
                                · skip
                                  have c_240 : ¬ ((wayO C (fs t)) / 100) = 3 := fun z => c_240 ((nI_eq (a := ((wayO C (fs t)) / 100)) (b := 3) (by omega) (by omega)).mpr z)
                                  refine lv_iload hx hb dL_areTilesSo_254 (lv_at hl 6 rfl) ?_
                                  refine lv_bipush (v := nI 100) hx hb dL_areTilesSo_256 (by decide) ?_
                                  refine lv_idiv hx hb dL_areTilesSo_258 (nI_ne0 (by omega) (by omega)) ?_
                                  refine g_ti (y := nI ((wayO C (fs t)) / 100)) (pk_div (by omega) (by omega) (by omega)) ?_
                                  refine lv_iconst (v := nI 4) hx hb dL_areTilesSo_259 (by decide) ?_
                                  refine lv_icmp_le (tgt := 265) hx hb dL_areTilesSo_260 (by decide) (fun c_260 => ?_) (fun c_260 => ?_)
                                  · skip
                                    have c_260 : ((wayO C (fs t)) / 100) ≤ 4 := (nI_leI (a := ((wayO C (fs t)) / 100)) (b := 4) (by omega) (by omega)).mp c_260
                                    refine lv_iinc (v := nI (t + 1)) (lv' := [(3, .int (nI (t + 1))), (10, .int (nI m)), (0, .ref (a 0)), (1, .int (nI 0)), (4, .int (nI (nCol (fs t)))), (5, .int (nI (nRun (fs t)))), (6, .int (nI (wayO C (fs t)))), (7, .int (nI (wayO C (fs t) % 100)))]) hx hb dL_areTilesSo_265 hl (k := 3) rfl (nI_1 _) (by decide) rfl (fun ls hl => ?_)
                                    refine lv_goto (tgt := 60) hx hb dL_areTilesSo_268 (by decide) ?_
                                    exact ih_60 (t + 1) (by omega) (by omega) _ (lv_sub hl [2, 3, 0] rfl)
                                  · skip
                                    have c_260 : ¬ ((wayO C (fs t)) / 100) ≤ 4 := fun z => c_260 ((nI_leI (a := ((wayO C (fs t)) / 100)) (b := 4) (by omega) (by omega)).mpr z)
                                    exact absurd t8 c_260
                                · skip
                                  have c_240 : ((wayO C (fs t)) / 100) = 3 := (nI_eq (a := ((wayO C (fs t)) / 100)) (b := 3) (by omega) (by omega)).mp c_240
                                  refine lv_iload hx hb dL_areTilesSo_243 (lv_at hl 7 rfl) ?_
                                  refine lv_iconst (v := nI 1) hx hb dL_areTilesSo_245 (by decide) ?_
                                  refine lv_iconst (v := nI 2) hx hb dL_areTilesSo_246 (by decide) ?_
                                  refine lv_iload hx hb dL_areTilesSo_247 (lv_at hl 5 rfl) ?_
                                  refine lv_imul hx hb dL_areTilesSo_249 ?_
                                  refine g_ti (y := nI (2 * (nRun (fs t)))) (pk_mul _ _) ?_
                                  refine lv_iadd hx hb dL_areTilesSo_250 ?_
                                  refine g_ti (y := nI (1 + (2 * (nRun (fs t))))) (nI_add _ _) ?_
                                  refine lv_icmp_ne (tgt := 263) hx hb dL_areTilesSo_251 (by decide) (fun c_251 => ?_) (fun c_251 => ?_)
                                  · skip
                                    have c_251 : ¬ (wayO C (fs t) % 100) = (1 + (2 * (nRun (fs t)))) := fun z => c_251 ((nI_eq (a := (wayO C (fs t) % 100)) (b := (1 + (2 * (nRun (fs t))))) (by omega) (by omega)).mpr z)
                                    exact absurd (t7 c_240) c_251
                                  · skip
                                    have c_251 : (wayO C (fs t) % 100) = (1 + (2 * (nRun (fs t)))) := (nI_eq (a := (wayO C (fs t) % 100)) (b := (1 + (2 * (nRun (fs t))))) (by omega) (by omega)).mp c_251
                                    refine lv_iload hx hb dL_areTilesSo_254 (lv_at hl 6 rfl) ?_
                                    refine lv_bipush (v := nI 100) hx hb dL_areTilesSo_256 (by decide) ?_
                                    refine lv_idiv hx hb dL_areTilesSo_258 (nI_ne0 (by omega) (by omega)) ?_
                                    refine g_ti (y := nI ((wayO C (fs t)) / 100)) (pk_div (by omega) (by omega) (by omega)) ?_
                                    refine lv_iconst (v := nI 4) hx hb dL_areTilesSo_259 (by decide) ?_
                                    refine lv_icmp_le (tgt := 265) hx hb dL_areTilesSo_260 (by decide) (fun c_260 => ?_) (fun c_260 => ?_)
                                    · skip
                                      have c_260 : ((wayO C (fs t)) / 100) ≤ 4 := (nI_leI (a := ((wayO C (fs t)) / 100)) (b := 4) (by omega) (by omega)).mp c_260
                                      refine lv_iinc (v := nI (t + 1)) (lv' := [(3, .int (nI (t + 1))), (10, .int (nI m)), (0, .ref (a 0)), (1, .int (nI 0)), (4, .int (nI (nCol (fs t)))), (5, .int (nI (nRun (fs t)))), (6, .int (nI (wayO C (fs t)))), (7, .int (nI (wayO C (fs t) % 100)))]) hx hb dL_areTilesSo_265 hl (k := 3) rfl (nI_1 _) (by decide) rfl (fun ls hl => ?_)
                                      refine lv_goto (tgt := 60) hx hb dL_areTilesSo_268 (by decide) ?_
                                      exact ih_60 (t + 1) (by omega) (by omega) _ (lv_sub hl [2, 3, 0] rfl)
                                    · skip
                                      have c_260 : ¬ ((wayO C (fs t)) / 100) ≤ 4 := fun z => c_260 ((nI_leI (a := ((wayO C (fs t)) / 100)) (b := 4) (by omega) (by omega)).mpr z)
                                      exact absurd t8 c_260
                          · skip
                            have c_206 : ¬ (wayO C (fs t)) = 2 := fun z => c_206 ((nI_eq (a := (wayO C (fs t))) (b := 2) (by omega) (by omega)).mpr z)
                            exact absurd (t4 (by omega)) c_206
                  refine lv_iload hx hb dL_areTilesSo_166 (lv_at hl 8 rfl) ?_
                  refine lv_iload hx hb dL_areTilesSo_168 (lv_at hl 0 rfl) ?_
                  refine lv_icmp_ge (tgt := 178) hx hb dL_areTilesSo_170 (by decide) (fun c_170 => ?_) (fun c_170 => ?_)
                  · skip
                    have c_170 : b9 ≤ p := (nI_leI (a := b9) (b := p) (by omega) (by omega)).mp c_170
                    refine lv_iload hx hb dL_areTilesSo_178 (lv_at hl 0 rfl) ?_
                    exact join_180 b9 (by omega) _ (lv_sub hl [1, 2, 3, 4, 5, 6, 7] rfl)
                  · skip
                    have c_170 : ¬ b9 ≤ p := fun z => c_170 ((nI_leI (a := b9) (b := p) (by omega) (by omega)).mpr z)
                    refine lv_iload hx hb dL_areTilesSo_173 (lv_at hl 8 rfl) ?_
                    refine lv_goto (tgt := 180) hx hb dL_areTilesSo_175 (by decide) ?_
                    exact join_180 p (by omega) _ (lv_sub hl [1, 2, 3, 4, 5, 6, 7] rfl)
                refine lv_iload hx hb dL_areTilesSo_119 (lv_at hl 4 rfl) ?_
                refine lv_iconst (v := nI 1) hx hb dL_areTilesSo_121 (by decide) ?_
                refine lv_icmp_ne (tgt := 129) hx hb dL_areTilesSo_122 (by decide) (fun c_122 => ?_) (fun c_122 => ?_)
                · skip
                  have c_122 : ¬ (nCol (fs t)) = 1 := fun z => c_122 ((nI_eq (a := (nCol (fs t))) (b := 1) (by omega) (by omega)).mpr z)
                  refine lv_iload hx hb dL_areTilesSo_129 (lv_at hl 4 rfl) ?_
                  refine lv_iconst (v := nI 2) hx hb dL_areTilesSo_131 (by decide) ?_
                  refine lv_icmp_ne (tgt := 140) hx hb dL_areTilesSo_132 (by decide) (fun c_132 => ?_) (fun c_132 => ?_)
                  · skip
                    have c_132 : ¬ (nCol (fs t)) = 2 := fun z => c_132 ((nI_eq (a := (nCol (fs t))) (b := 2) (by omega) (by omega)).mpr z)
                    refine lv_iload hx hb dL_areTilesSo_140 (lv_at hl 4 rfl) ?_
                    refine lv_iconst (v := nI 3) hx hb dL_areTilesSo_142 (by decide) ?_
                    refine lv_icmp_ne (tgt := 151) hx hb dL_areTilesSo_143 (by decide) (fun c_143 => ?_) (fun c_143 => ?_)
                    · skip
                      have c_143 : ¬ (nCol (fs t)) = 3 := fun z => c_143 ((nI_eq (a := (nCol (fs t))) (b := 3) (by omega) (by omega)).mpr z)
                      refine lv_iload hx hb dL_areTilesSo_151 (lv_at hl 4 rfl) ?_
                      refine lv_iconst (v := nI 4) hx hb dL_areTilesSo_153 (by decide) ?_
                      refine lv_icmp_ne (tgt := 162) hx hb dL_areTilesSo_154 (by decide) (fun c_154 => ?_) (fun c_154 => ?_)
                      · skip
                        have c_154 : ¬ (nCol (fs t)) = 4 := fun z => c_154 ((nI_eq (a := (nCol (fs t))) (b := 4) (by omega) (by omega)).mpr z)
                        refine lv_bipush (v := nI 17) hx hb dL_areTilesSo_162 (by decide) ?_
                        exact join_164 17 (by unfold ubL; (repeat' split) <;> omega) _ (lv_sub hl [1, 2, 3, 4, 5, 6, 7, 0] rfl)
                      · skip
                        have c_154 : (nCol (fs t)) = 4 := (nI_eq (a := (nCol (fs t))) (b := 4) (by omega) (by omega)).mp c_154
                        refine lv_bipush (v := nI 16) hx hb dL_areTilesSo_157 (by decide) ?_
                        refine lv_goto (tgt := 164) hx hb dL_areTilesSo_159 (by decide) ?_
                        exact join_164 16 (by unfold ubL; (repeat' split) <;> omega) _ (lv_sub hl [1, 2, 3, 4, 5, 6, 7, 0] rfl)
                    · skip
                      have c_143 : (nCol (fs t)) = 3 := (nI_eq (a := (nCol (fs t))) (b := 3) (by omega) (by omega)).mp c_143
                      refine lv_bipush (v := nI 15) hx hb dL_areTilesSo_146 (by decide) ?_
                      refine lv_goto (tgt := 164) hx hb dL_areTilesSo_148 (by decide) ?_
                      exact join_164 15 (by unfold ubL; (repeat' split) <;> omega) _ (lv_sub hl [1, 2, 3, 4, 5, 6, 7, 0] rfl)
                  · skip
                    have c_132 : (nCol (fs t)) = 2 := (nI_eq (a := (nCol (fs t))) (b := 2) (by omega) (by omega)).mp c_132
                    refine lv_bipush (v := nI 10) hx hb dL_areTilesSo_135 (by decide) ?_
                    refine lv_goto (tgt := 164) hx hb dL_areTilesSo_137 (by decide) ?_
                    exact join_164 10 (by unfold ubL; (repeat' split) <;> omega) _ (lv_sub hl [1, 2, 3, 4, 5, 6, 7, 0] rfl)
                · skip
                  have c_122 : (nCol (fs t)) = 1 := (nI_eq (a := (nCol (fs t))) (b := 1) (by omega) (by omega)).mp c_122
                  refine lv_iconst (v := nI 3) hx hb dL_areTilesSo_125 (by decide) ?_
                  refine lv_goto (tgt := 164) hx hb dL_areTilesSo_126 (by decide) ?_
                  exact join_164 3 (by unfold ubL; (repeat' split) <;> omega) _ (lv_sub hl [1, 2, 3, 4, 5, 6, 7, 0] rfl)
              refine lv_icmp_ge (tgt := 115) hx hb dL_areTilesSo_103 (by decide) (fun c_103 => ?_) (fun c_103 => ?_)
              · skip
                have c_103 : 17 ≤ (1 + (2 * (nRun (fs t)))) := (nI_leI (a := 17) (b := (1 + (2 * (nRun (fs t))))) (by omega) (by omega)).mp c_103
                refine lv_bipush (v := nI 17) hx hb dL_areTilesSo_115 (by decide) ?_
                exact join_117 17 (by omega) _ (lv_sub hl [4, 5, 6, 3, 2, 1, 0] rfl)
              · skip
                have c_103 : ¬ 17 ≤ (1 + (2 * (nRun (fs t)))) := fun z => c_103 ((nI_leI (a := 17) (b := (1 + (2 * (nRun (fs t))))) (by omega) (by omega)).mpr z)
                refine lv_iconst (v := nI 1) hx hb dL_areTilesSo_106 (by decide) ?_
                refine lv_iconst (v := nI 2) hx hb dL_areTilesSo_107 (by decide) ?_
                refine lv_iload hx hb dL_areTilesSo_108 (lv_at hl 2 rfl) ?_
                refine lv_imul hx hb dL_areTilesSo_110 ?_
                refine g_ti (y := nI (2 * (nRun (fs t)))) (pk_mul _ _) ?_
                refine lv_iadd hx hb dL_areTilesSo_111 ?_
                refine g_ti (y := nI (1 + (2 * (nRun (fs t))))) (nI_add _ _) ?_
                refine lv_goto (tgt := 117) hx hb dL_areTilesSo_112 (by decide) ?_
                exact join_117 (1 + (2 * (nRun (fs t)))) (by omega) _ (lv_sub hl [4, 5, 6, 3, 2, 1, 0] rfl)
        exact loop_60 ((12 - 0) + 1) 0 (Nat.lt_succ_self _) (by omega) _ (lv_sub hl [1, 2, 0] rfl)
      · skip
        have c_10 : ¬ L.length ≤ k := fun z => c_10 ((nI_leI (a := L.length) (b := k) (by omega) (by omega)).mpr z)
        have z2 := okD_get ho (i := k) (by omega)
        refine lv_aload_n hx hb dL_areTilesSo_13 rfl (lv_at hl 0 rfl) ?_
        refine lv_iload_n hx hb dL_areTilesSo_14 rfl (lv_at hl 1 rfl) ?_
        refine lv_iload_n hx hb dL_areTilesSo_15 rfl (lv_at hl 3 rfl) ?_
        refine gc_Si (va_runV (As := [.int (nI 0), .int (nI k)]) (rest := []) ⟨hx, hb, hml, hown, hts⟩ (c_X3_dirtyAt l D cy a q uw g J k9 0 L fd k (by decide) hg hJ hL ho (by omega)) (cwV 2 hts gL_areTilesSo_X3_dirtyAt rfl rfl rfl (by decide +kernel) ⟨Nat.le_of_ble_eq_true rfl, Nat.le_of_ble_eq_true rfl⟩) (gpVR (ci := 3) (q0 := 0) hG (hP.sub [0, 1, 2, 3] rfl) rfl rfl) rfl rfl hl.1 rfl (lv_room (Nat.le_of_ble_eq_true rfl)) dL_areTilesSo_16 ⟨Nat.zero_le _, Nat.zero_le _⟩) ?_
        refine lv_istore (lv' := [(4, .int (nI (L.getD k 0))), (0, .ref (a 0)), (1, .int (nI 0)), (2, .int (nI (metD L k))), (3, .int (nI k))]) hx hb dL_areTilesSo_19 hl (by decide) rfl (fun ls hl => ?_)
        refine lv_iload hx hb dL_areTilesSo_21 (lv_at hl 0 rfl) ?_
        refine lv_if_lt (tgt := 43) hx hb dL_areTilesSo_23 (by decide) (fun c_23 => ?_) (fun c_23 => ?_)
        · skip
          have c_23 : (L.getD k 0) < 0 := (nI_ltI (a := (L.getD k 0)) (b := 0) (by omega) (by omega)).mp c_23
          exact absurd c_23 (Nat.not_lt_zero _)
        · skip
          have c_23 : ¬ (L.getD k 0) < 0 := fun z => c_23 ((nI_ltI (a := (L.getD k 0)) (b := 0) (by omega) (by omega)).mpr z)
          refine lv_iload hx hb dL_areTilesSo_26 (lv_at hl 0 rfl) ?_
          refine lv_bipush (v := nI 11) hx hb dL_areTilesSo_28 (by decide) ?_
          refine lv_icmp_gt (tgt := 43) hx hb dL_areTilesSo_30 (by decide) (fun c_30 => ?_) (fun c_30 => ?_)
          · skip
            have c_30 : 11 < (L.getD k 0) := (nI_ltI (a := 11) (b := (L.getD k 0)) (by omega) (by omega)).mp c_30
            exact absurd c_30 (by omega)
          · skip
            have c_30 : ¬ 11 < (L.getD k 0) := fun z => c_30 ((nI_ltI (a := 11) (b := (L.getD k 0)) (by omega) (by omega)).mpr z)
            refine lv_iload_n hx hb dL_areTilesSo_33 rfl (lv_at hl 3 rfl) ?_
            refine lv_iload hx hb dL_areTilesSo_34 (lv_at hl 0 rfl) ?_
            refine lv_ishr hx hb dL_areTilesSo_36 ?_
            refine lv_iconst (v := nI 1) hx hb dL_areTilesSo_37 (by decide) ?_
            refine lv_iand hx hb dL_areTilesSo_38 ?_
            refine g_ti (y := nI 0) (metD_z ho (by omega)) ?_
            refine lv_iconst (v := nI 1) hx hb dL_areTilesSo_39 (by decide) ?_
            refine lv_icmp_ne (tgt := 45) hx hb dL_areTilesSo_40 (by decide) (fun c_40 => ?_) (fun c_40 => ?_)
            · skip
              have c_40 : ¬ 0 = 1 := fun z => c_40 ((nI_eq (a := 0) (b := 1) (by omega) (by omega)).mpr z)
              refine lv_iload_n hx hb dL_areTilesSo_45 rfl (lv_at hl 3 rfl) ?_
              refine lv_iconst (v := nI 1) hx hb dL_areTilesSo_46 (by decide) ?_
              refine lv_iload hx hb dL_areTilesSo_47 (lv_at hl 0 rfl) ?_
              refine lv_ishl hx hb dL_areTilesSo_49 ?_
              refine g_ti (y := nI (2 ^ L.getD k 0)) (g_shl1 _ (by omega)) ?_
              refine lv_ior hx hb dL_areTilesSo_50 ?_
              refine g_ti (y := nI (metD L (k + 1))) (metD_s) ?_
              refine lv_istore_n (lv' := [(2, .int (nI (metD L (k + 1)))), (4, .int (nI (L.getD k 0))), (0, .ref (a 0)), (1, .int (nI 0)), (3, .int (nI k))]) hx hb dL_areTilesSo_51 rfl hl (by decide) rfl (fun ls hl => ?_)
              refine lv_iinc (v := nI (k + 1)) (lv' := [(3, .int (nI (k + 1))), (2, .int (nI (metD L (k + 1)))), (4, .int (nI (L.getD k 0))), (0, .ref (a 0)), (1, .int (nI 0))]) hx hb dL_areTilesSo_52 hl (k := 4) rfl (nI_1 _) (by decide) rfl (fun ls hl => ?_)
              refine lv_goto (tgt := 4) hx hb dL_areTilesSo_55 (by decide) ?_
              exact ih_4 (k + 1) (by omega) (by omega) _ (lv_sub hl [3, 4, 1, 0] rfl)
            · skip
              have c_40 : 0 = 1 := (nI_eq (a := 0) (b := 1) (by omega) (by omega)).mp c_40
              exact absurd c_40 (by decide)
  exact loop_4 ((L.length - 0) + 1) 0 (Nat.lt_succ_self _) (Nat.zero_le _) _ (lv_sub hl [2, 3, 1, 0] rfl)
set_option maxHeartbeats 4000000 in
set_option maxRecDepth 100000 in
theorem c_L_areAlike (l : Launch) (hst : l.stackTraces = false) (D : va_G) (cy : Nat → ClassId) (sa : Nat → Nat) (sz : Nat) (a q r b c d : Nat → Nat) (x : ob_T) (y : ob_K) (z : ob_T) (w : ob_K) (h9 : eqs x z) : Met l yL_areAlike wsL_areAlike ({ frames := 9, cells := 4, slots := 24, locals := 156 } : Room) (va_Pc [.ref (a 0), .ref (b 0)] (gZ D (gT cy) sa (fun q => sz ≤ q) (ob_w cy a q r x y ++ ob_w cy b c d z w) sz)) (va_Qi (fun (r9 : Int32) (_ : Unit) => r9 = nI 1) (fun _ _ => True) (fun q => sz ≤ q)) 4 24 (fun q => sz ≤ q) := by
  obtain ⟨fs, uw, fw, J, LL, So, Co, Cs, Ms⟩ := x
  obtain ⟨fb, fd, ft, fo, fc, fm⟩ := y
  obtain ⟨fsP, uwP, fwP, JP, LLP, SoP, CoP, CsP, MsP⟩ := z
  obtain ⟨fbP, fdP, ftP, foP, fcP, fmP⟩ := w
  have hF : ∀ k, k < 12 → fs k = fsP k := h9.1
  have hU : uw = uwP := h9.2.1
  have hW : fw = fwP := h9.2.2.1
  refine gW_y (cc := cL_areAlike) (maxL := 4) (ty := .boolean) (by decide) rfl (Nat.le_of_ble_eq_true rfl) rfl ?_
  intro pp ee ss mm bw mt cd QQ AA ls eA hfx hP hG hD hA hE hN9 hret hl
  obtain ⟨hx, hb, hml, hown, hts, hlocks⟩ := hfx
  have hown : ss.vm.findClass RL = some mm.cls := hown
  have hl : lv_has ls 4 [(0, .ref (a 0)), (1, .ref (b 0))] := hl
  have hS : va_S AA ss.heap ss.heap [] := va_S.rf
  obtain ⟨H, eH⟩ : ∃ H, H = ss.heap := ⟨_, rfl⟩
  obtain ⟨locs, eL⟩ : ∃ L : List Loc, L = [] := ⟨_, rfl⟩
  have hP : va_P D vwCl [(a 0, eTop (a 1) (a 3) (a 5) (a 6) uw), (a 1, eScr (a 2)), (a 2, eJ cy 12 fs), (a 3, eScr (a 4)), (a 4, eJ cy 12 fb), (a 5, eQ cy 2 (gQ q r)), (a 6, eI cy 5 fw), (q 0, eCli (gb (J 0)) (q 1) (q 3) (q 5) (q 7) (nI (LL 0).length) (q 8) (q 9) (nI (Ms 0).length)), (q 1, eScr (q 2)), (q 2, eJ cy 12 (So 0)), (q 3, eCch (q 4) (nI (Co 0).length)), (q 4, eJ cy 6 (fo 0)), (q 5, eCch (q 6) (nI (Cs 0).length)), (q 6, eJ cy 6 (fc 0)), (q 7, eI cy 12 (fd 0)), (q 8, eI cy 12 (ft 0)), (q 9, eJ cy 12 (fm 0)), (r 0, eCli (gb (J 1)) (r 1) (r 3) (r 5) (r 7) (nI (LL 1).length) (r 8) (r 9) (nI (Ms 1).length)), (r 1, eScr (r 2)), (r 2, eJ cy 12 (So 1)), (r 3, eCch (r 4) (nI (Co 1).length)), (r 4, eJ cy 6 (fo 1)), (r 5, eCch (r 6) (nI (Cs 1).length)), (r 6, eJ cy 6 (fc 1)), (r 7, eI cy 12 (fd 1)), (r 8, eI cy 12 (ft 1)), (r 9, eJ cy 12 (fm 1)), (b 0, eTop (b 1) (b 3) (b 5) (b 6) uwP), (b 1, eScr (b 2)), (b 2, eJ cy 12 fsP), (b 3, eScr (b 4)), (b 4, eJ cy 12 fbP), (b 5, eQ cy 2 (gQ c d)), (b 6, eI cy 5 fwP), (c 0, eCli (gb (JP 0)) (c 1) (c 3) (c 5) (c 7) (nI (LLP 0).length) (c 8) (c 9) (nI (MsP 0).length)), (c 1, eScr (c 2)), (c 2, eJ cy 12 (SoP 0)), (c 3, eCch (c 4) (nI (CoP 0).length)), (c 4, eJ cy 6 (foP 0)), (c 5, eCch (c 6) (nI (CsP 0).length)), (c 6, eJ cy 6 (fcP 0)), (c 7, eI cy 12 (fdP 0)), (c 8, eI cy 12 (ftP 0)), (c 9, eJ cy 12 (fmP 0)), (d 0, eCli (gb (JP 1)) (d 1) (d 3) (d 5) (d 7) (nI (LLP 1).length) (d 8) (d 9) (nI (MsP 1).length)), (d 1, eScr (d 2)), (d 2, eJ cy 12 (SoP 1)), (d 3, eCch (d 4) (nI (CoP 1).length)), (d 4, eJ cy 6 (foP 1)), (d 5, eCch (d 6) (nI (CsP 1).length)), (d 6, eJ cy 6 (fcP 1)), (d 7, eI cy 12 (fdP 1)), (d 8, eI cy 12 (ftP 1)), (d 9, eJ cy 12 (fmP 1))] H := by rw [eH]; exact hP
  have hD : va_D (fun _ => True) [(a 0, eTop (a 1) (a 3) (a 5) (a 6) uw), (a 1, eScr (a 2)), (a 2, eJ cy 12 fs), (a 3, eScr (a 4)), (a 4, eJ cy 12 fb), (a 5, eQ cy 2 (gQ q r)), (a 6, eI cy 5 fw), (q 0, eCli (gb (J 0)) (q 1) (q 3) (q 5) (q 7) (nI (LL 0).length) (q 8) (q 9) (nI (Ms 0).length)), (q 1, eScr (q 2)), (q 2, eJ cy 12 (So 0)), (q 3, eCch (q 4) (nI (Co 0).length)), (q 4, eJ cy 6 (fo 0)), (q 5, eCch (q 6) (nI (Cs 0).length)), (q 6, eJ cy 6 (fc 0)), (q 7, eI cy 12 (fd 0)), (q 8, eI cy 12 (ft 0)), (q 9, eJ cy 12 (fm 0)), (r 0, eCli (gb (J 1)) (r 1) (r 3) (r 5) (r 7) (nI (LL 1).length) (r 8) (r 9) (nI (Ms 1).length)), (r 1, eScr (r 2)), (r 2, eJ cy 12 (So 1)), (r 3, eCch (r 4) (nI (Co 1).length)), (r 4, eJ cy 6 (fo 1)), (r 5, eCch (r 6) (nI (Cs 1).length)), (r 6, eJ cy 6 (fc 1)), (r 7, eI cy 12 (fd 1)), (r 8, eI cy 12 (ft 1)), (r 9, eJ cy 12 (fm 1)), (b 0, eTop (b 1) (b 3) (b 5) (b 6) uwP), (b 1, eScr (b 2)), (b 2, eJ cy 12 fsP), (b 3, eScr (b 4)), (b 4, eJ cy 12 fbP), (b 5, eQ cy 2 (gQ c d)), (b 6, eI cy 5 fwP), (c 0, eCli (gb (JP 0)) (c 1) (c 3) (c 5) (c 7) (nI (LLP 0).length) (c 8) (c 9) (nI (MsP 0).length)), (c 1, eScr (c 2)), (c 2, eJ cy 12 (SoP 0)), (c 3, eCch (c 4) (nI (CoP 0).length)), (c 4, eJ cy 6 (foP 0)), (c 5, eCch (c 6) (nI (CsP 0).length)), (c 6, eJ cy 6 (fcP 0)), (c 7, eI cy 12 (fdP 0)), (c 8, eI cy 12 (ftP 0)), (c 9, eJ cy 12 (fmP 0)), (d 0, eCli (gb (JP 1)) (d 1) (d 3) (d 5) (d 7) (nI (LLP 1).length) (d 8) (d 9) (nI (MsP 1).length)), (d 1, eScr (d 2)), (d 2, eJ cy 12 (SoP 1)), (d 3, eCch (d 4) (nI (CoP 1).length)), (d 4, eJ cy 6 (foP 1)), (d 5, eCch (d 6) (nI (CsP 1).length)), (d 6, eJ cy 6 (fcP 1)), (d 7, eI cy 12 (fdP 1)), (d 8, eI cy 12 (ftP 1)), (d 9, eJ cy 12 (fmP 1))] := hD
  have hS : va_S AA ss.heap H locs := by rw [eH, eL]; exact hS
  have goal : ∀ X Y, X = H → Y = locs → W pp l ee ({ frames := 9, cells := 4, slots := 24, locals := 156 } : Room) ss mm ([.ref (a 0), .ref (b 0)] : List Value).toArray bw mt cd X Y 0 0 QQ (F0 mm 0 ls []) → W pp l ee ({ frames := 9, cells := 4, slots := 24, locals := 156 } : Room) ss mm ([.ref (a 0), .ref (b 0)] : List Value).toArray bw mt cd ss.heap [] 0 0 QQ (F0 mm 0 ls []) := fun X Y hX hY h => by rw [hX, hY, eH, eL] at h; exact h
  refine goal H locs rfl rfl ?_
  clear goal eH eL
  refine lv_aload_n hx hb dL_areAlike_0 rfl (lv_at hl 0 rfl) ?_
  refine gc_Si (va_runV (As := []) (rest := []) ⟨hx, hb, hml, hown, hts⟩ (c_X3_units l D cy a uw) (cwV 0 hts gL_areAlike_X3_units rfl rfl rfl (by decide +kernel) ⟨Nat.le_of_ble_eq_true rfl, Nat.le_of_ble_eq_true rfl⟩) (gpVR (ci := 3) (q0 := 0) hG (hP.sub [0] rfl) rfl rfl) rfl rfl hl.1 rfl (lv_room (Nat.le_of_ble_eq_true rfl)) dL_areAlike_1 ⟨Nat.le_of_ble_eq_true rfl, Nat.le_of_ble_eq_true rfl⟩) ?_
  refine lv_aload_n hx hb dL_areAlike_4 rfl (lv_at hl 1 rfl) ?_
  refine gc_Si (va_runV (As := []) (rest := [.int uw]) ⟨hx, hb, hml, hown, hts⟩ (c_X3_units l D cy b uwP) (cwV 0 hts gL_areAlike_X3_units rfl rfl rfl (by decide +kernel) ⟨Nat.le_of_ble_eq_true rfl, Nat.le_of_ble_eq_true rfl⟩) (gpVR (ci := 3) (q0 := 0) hG (hP.sub [27] rfl) rfl rfl) rfl rfl hl.1 rfl (lv_room (Nat.le_of_ble_eq_true rfl)) dL_areAlike_5 ⟨Nat.le_of_ble_eq_true rfl, Nat.le_of_ble_eq_true rfl⟩) ?_
  refine lv_icmp_ne (tgt := 41) hx hb dL_areAlike_8 (by decide) (fun c_8 => ?_) (fun c_8 => ?_)
  · skip
    exact absurd hU c_8
  · skip
    refine lv_aload_n hx hb dL_areAlike_11 rfl (lv_at hl 0 rfl) ?_
    refine lv_iconst (v := nI 0) hx hb dL_areAlike_12 (by decide) ?_
    refine gc_Yi (B0 := fun _ => True) (vx_runSW (As := [.ref (a 0), .int (nI 0)]) (rest := []) ⟨hx, hb, hml, hown, hts⟩ (c_L_unlike l hst D cy sa H.size a q r (fs, uw, fw, J, LL, So, Co, Cs, Ms) (fb, fd, ft, fo, fc, fm) 0 (by decide)) (vx_cwSW 2 hts gL_areAlike_L_unlike rfl rfl rfl (by decide +kernel) ⟨Nat.le_of_ble_eq_true rfl, Nat.le_of_ble_eq_true rfl⟩) (gpSY hG hE hN9 (hP.sub [0, 1, 2, 3, 4, 5, 6, 7, 8, 9, 10, 11, 12, 13, 14, 15, 16, 17, 18, 19, 20, 21, 22, 23, 24, 25, 26] rfl) (hD.sub [0, 1, 2, 3, 4, 5, 6, 7, 8, 9, 10, 11, 12, 13, 14, 15, 16, 17, 18, 19, 20, 21, 22, 23, 24, 25, 26] (by decide) rfl) hS hA) rfl rfl hl.1 rfl (lv_room (Nat.le_of_ble_eq_true rfl)) dL_areAlike_13 ⟨Nat.le_of_ble_eq_true rfl, Nat.le_of_ble_eq_true rfl⟩) hP hS hA (fun H locs hP hS => ?_)
    have hP : va_P D vwCl [(a 0, eTop (a 1) (a 3) (a 5) (a 6) uw), (a 1, eScr (a 2)), (a 2, eJ cy 12 fs), (a 3, eScr (a 4)), (a 4, eJ cy 12 fb), (a 5, eQ cy 2 (gQ q r)), (a 6, eI cy 5 fw), (q 0, eCli (gb (J 0)) (q 1) (q 3) (q 5) (q 7) (nI (LL 0).length) (q 8) (q 9) (nI (Ms 0).length)), (q 1, eScr (q 2)), (q 2, eJ cy 12 (So 0)), (q 3, eCch (q 4) (nI (Co 0).length)), (q 4, eJ cy 6 (fo 0)), (q 5, eCch (q 6) (nI (Cs 0).length)), (q 6, eJ cy 6 (fc 0)), (q 7, eI cy 12 (fd 0)), (q 8, eI cy 12 (ft 0)), (q 9, eJ cy 12 (fm 0)), (r 0, eCli (gb (J 1)) (r 1) (r 3) (r 5) (r 7) (nI (LL 1).length) (r 8) (r 9) (nI (Ms 1).length)), (r 1, eScr (r 2)), (r 2, eJ cy 12 (So 1)), (r 3, eCch (r 4) (nI (Co 1).length)), (r 4, eJ cy 6 (fo 1)), (r 5, eCch (r 6) (nI (Cs 1).length)), (r 6, eJ cy 6 (fc 1)), (r 7, eI cy 12 (fd 1)), (r 8, eI cy 12 (ft 1)), (r 9, eJ cy 12 (fm 1)), (b 0, eTop (b 1) (b 3) (b 5) (b 6) uwP), (b 1, eScr (b 2)), (b 2, eJ cy 12 fsP), (b 3, eScr (b 4)), (b 4, eJ cy 12 fbP), (b 5, eQ cy 2 (gQ c d)), (b 6, eI cy 5 fwP), (c 0, eCli (gb (JP 0)) (c 1) (c 3) (c 5) (c 7) (nI (LLP 0).length) (c 8) (c 9) (nI (MsP 0).length)), (c 1, eScr (c 2)), (c 2, eJ cy 12 (SoP 0)), (c 3, eCch (c 4) (nI (CoP 0).length)), (c 4, eJ cy 6 (foP 0)), (c 5, eCch (c 6) (nI (CsP 0).length)), (c 6, eJ cy 6 (fcP 0)), (c 7, eI cy 12 (fdP 0)), (c 8, eI cy 12 (ftP 0)), (c 9, eJ cy 12 (fmP 0)), (d 0, eCli (gb (JP 1)) (d 1) (d 3) (d 5) (d 7) (nI (LLP 1).length) (d 8) (d 9) (nI (MsP 1).length)), (d 1, eScr (d 2)), (d 2, eJ cy 12 (SoP 1)), (d 3, eCch (d 4) (nI (CoP 1).length)), (d 4, eJ cy 6 (foP 1)), (d 5, eCch (d 6) (nI (CsP 1).length)), (d 6, eJ cy 6 (fcP 1)), (d 7, eI cy 12 (fdP 1)), (d 8, eI cy 12 (ftP 1)), (d 9, eJ cy 12 (fmP 1))] H := hP
    have hD : va_D (fun _ => True) [(a 0, eTop (a 1) (a 3) (a 5) (a 6) uw), (a 1, eScr (a 2)), (a 2, eJ cy 12 fs), (a 3, eScr (a 4)), (a 4, eJ cy 12 fb), (a 5, eQ cy 2 (gQ q r)), (a 6, eI cy 5 fw), (q 0, eCli (gb (J 0)) (q 1) (q 3) (q 5) (q 7) (nI (LL 0).length) (q 8) (q 9) (nI (Ms 0).length)), (q 1, eScr (q 2)), (q 2, eJ cy 12 (So 0)), (q 3, eCch (q 4) (nI (Co 0).length)), (q 4, eJ cy 6 (fo 0)), (q 5, eCch (q 6) (nI (Cs 0).length)), (q 6, eJ cy 6 (fc 0)), (q 7, eI cy 12 (fd 0)), (q 8, eI cy 12 (ft 0)), (q 9, eJ cy 12 (fm 0)), (r 0, eCli (gb (J 1)) (r 1) (r 3) (r 5) (r 7) (nI (LL 1).length) (r 8) (r 9) (nI (Ms 1).length)), (r 1, eScr (r 2)), (r 2, eJ cy 12 (So 1)), (r 3, eCch (r 4) (nI (Co 1).length)), (r 4, eJ cy 6 (fo 1)), (r 5, eCch (r 6) (nI (Cs 1).length)), (r 6, eJ cy 6 (fc 1)), (r 7, eI cy 12 (fd 1)), (r 8, eI cy 12 (ft 1)), (r 9, eJ cy 12 (fm 1)), (b 0, eTop (b 1) (b 3) (b 5) (b 6) uwP), (b 1, eScr (b 2)), (b 2, eJ cy 12 fsP), (b 3, eScr (b 4)), (b 4, eJ cy 12 fbP), (b 5, eQ cy 2 (gQ c d)), (b 6, eI cy 5 fwP), (c 0, eCli (gb (JP 0)) (c 1) (c 3) (c 5) (c 7) (nI (LLP 0).length) (c 8) (c 9) (nI (MsP 0).length)), (c 1, eScr (c 2)), (c 2, eJ cy 12 (SoP 0)), (c 3, eCch (c 4) (nI (CoP 0).length)), (c 4, eJ cy 6 (foP 0)), (c 5, eCch (c 6) (nI (CsP 0).length)), (c 6, eJ cy 6 (fcP 0)), (c 7, eI cy 12 (fdP 0)), (c 8, eI cy 12 (ftP 0)), (c 9, eJ cy 12 (fmP 0)), (d 0, eCli (gb (JP 1)) (d 1) (d 3) (d 5) (d 7) (nI (LLP 1).length) (d 8) (d 9) (nI (MsP 1).length)), (d 1, eScr (d 2)), (d 2, eJ cy 12 (SoP 1)), (d 3, eCch (d 4) (nI (CoP 1).length)), (d 4, eJ cy 6 (foP 1)), (d 5, eCch (d 6) (nI (CsP 1).length)), (d 6, eJ cy 6 (fcP 1)), (d 7, eI cy 12 (fdP 1)), (d 8, eI cy 12 (ftP 1)), (d 9, eJ cy 12 (fmP 1))] := hD
    refine lv_aload_n hx hb dL_areAlike_16 rfl (lv_at hl 1 rfl) ?_
    refine lv_iconst (v := nI 0) hx hb dL_areAlike_17 (by decide) ?_
    refine gc_Yi (B0 := fun _ => True) (vx_runSW (As := [.ref (b 0), .int (nI 0)]) (rest := [.int (o_unl (fs, uw, fw, J, LL, So, Co, Cs, Ms) 0)]) ⟨hx, hb, hml, hown, hts⟩ (c_L_unlike l hst D cy sa H.size b c d (fsP, uwP, fwP, JP, LLP, SoP, CoP, CsP, MsP) (fbP, fdP, ftP, foP, fcP, fmP) 0 (by decide)) (vx_cwSW 2 hts gL_areAlike_L_unlike rfl rfl rfl (by decide +kernel) ⟨Nat.le_of_ble_eq_true rfl, Nat.le_of_ble_eq_true rfl⟩) (gpSY hG hE hN9 (hP.sub [27, 28, 29, 30, 31, 32, 33, 34, 35, 36, 37, 38, 39, 40, 41, 42, 43, 44, 45, 46, 47, 48, 49, 50, 51, 52, 53] rfl) (hD.sub [27, 28, 29, 30, 31, 32, 33, 34, 35, 36, 37, 38, 39, 40, 41, 42, 43, 44, 45, 46, 47, 48, 49, 50, 51, 52, 53] (by decide) rfl) hS hA) rfl rfl hl.1 rfl (lv_room (Nat.le_of_ble_eq_true rfl)) dL_areAlike_18 ⟨Nat.le_of_ble_eq_true rfl, Nat.le_of_ble_eq_true rfl⟩) hP hS hA (fun H locs hP hS => ?_)
    have hP : va_P D vwCl [(a 0, eTop (a 1) (a 3) (a 5) (a 6) uw), (a 1, eScr (a 2)), (a 2, eJ cy 12 fs), (a 3, eScr (a 4)), (a 4, eJ cy 12 fb), (a 5, eQ cy 2 (gQ q r)), (a 6, eI cy 5 fw), (q 0, eCli (gb (J 0)) (q 1) (q 3) (q 5) (q 7) (nI (LL 0).length) (q 8) (q 9) (nI (Ms 0).length)), (q 1, eScr (q 2)), (q 2, eJ cy 12 (So 0)), (q 3, eCch (q 4) (nI (Co 0).length)), (q 4, eJ cy 6 (fo 0)), (q 5, eCch (q 6) (nI (Cs 0).length)), (q 6, eJ cy 6 (fc 0)), (q 7, eI cy 12 (fd 0)), (q 8, eI cy 12 (ft 0)), (q 9, eJ cy 12 (fm 0)), (r 0, eCli (gb (J 1)) (r 1) (r 3) (r 5) (r 7) (nI (LL 1).length) (r 8) (r 9) (nI (Ms 1).length)), (r 1, eScr (r 2)), (r 2, eJ cy 12 (So 1)), (r 3, eCch (r 4) (nI (Co 1).length)), (r 4, eJ cy 6 (fo 1)), (r 5, eCch (r 6) (nI (Cs 1).length)), (r 6, eJ cy 6 (fc 1)), (r 7, eI cy 12 (fd 1)), (r 8, eI cy 12 (ft 1)), (r 9, eJ cy 12 (fm 1)), (b 0, eTop (b 1) (b 3) (b 5) (b 6) uwP), (b 1, eScr (b 2)), (b 2, eJ cy 12 fsP), (b 3, eScr (b 4)), (b 4, eJ cy 12 fbP), (b 5, eQ cy 2 (gQ c d)), (b 6, eI cy 5 fwP), (c 0, eCli (gb (JP 0)) (c 1) (c 3) (c 5) (c 7) (nI (LLP 0).length) (c 8) (c 9) (nI (MsP 0).length)), (c 1, eScr (c 2)), (c 2, eJ cy 12 (SoP 0)), (c 3, eCch (c 4) (nI (CoP 0).length)), (c 4, eJ cy 6 (foP 0)), (c 5, eCch (c 6) (nI (CsP 0).length)), (c 6, eJ cy 6 (fcP 0)), (c 7, eI cy 12 (fdP 0)), (c 8, eI cy 12 (ftP 0)), (c 9, eJ cy 12 (fmP 0)), (d 0, eCli (gb (JP 1)) (d 1) (d 3) (d 5) (d 7) (nI (LLP 1).length) (d 8) (d 9) (nI (MsP 1).length)), (d 1, eScr (d 2)), (d 2, eJ cy 12 (SoP 1)), (d 3, eCch (d 4) (nI (CoP 1).length)), (d 4, eJ cy 6 (foP 1)), (d 5, eCch (d 6) (nI (CsP 1).length)), (d 6, eJ cy 6 (fcP 1)), (d 7, eI cy 12 (fdP 1)), (d 8, eI cy 12 (ftP 1)), (d 9, eJ cy 12 (fmP 1))] H := hP
    have hD : va_D (fun _ => True) [(a 0, eTop (a 1) (a 3) (a 5) (a 6) uw), (a 1, eScr (a 2)), (a 2, eJ cy 12 fs), (a 3, eScr (a 4)), (a 4, eJ cy 12 fb), (a 5, eQ cy 2 (gQ q r)), (a 6, eI cy 5 fw), (q 0, eCli (gb (J 0)) (q 1) (q 3) (q 5) (q 7) (nI (LL 0).length) (q 8) (q 9) (nI (Ms 0).length)), (q 1, eScr (q 2)), (q 2, eJ cy 12 (So 0)), (q 3, eCch (q 4) (nI (Co 0).length)), (q 4, eJ cy 6 (fo 0)), (q 5, eCch (q 6) (nI (Cs 0).length)), (q 6, eJ cy 6 (fc 0)), (q 7, eI cy 12 (fd 0)), (q 8, eI cy 12 (ft 0)), (q 9, eJ cy 12 (fm 0)), (r 0, eCli (gb (J 1)) (r 1) (r 3) (r 5) (r 7) (nI (LL 1).length) (r 8) (r 9) (nI (Ms 1).length)), (r 1, eScr (r 2)), (r 2, eJ cy 12 (So 1)), (r 3, eCch (r 4) (nI (Co 1).length)), (r 4, eJ cy 6 (fo 1)), (r 5, eCch (r 6) (nI (Cs 1).length)), (r 6, eJ cy 6 (fc 1)), (r 7, eI cy 12 (fd 1)), (r 8, eI cy 12 (ft 1)), (r 9, eJ cy 12 (fm 1)), (b 0, eTop (b 1) (b 3) (b 5) (b 6) uwP), (b 1, eScr (b 2)), (b 2, eJ cy 12 fsP), (b 3, eScr (b 4)), (b 4, eJ cy 12 fbP), (b 5, eQ cy 2 (gQ c d)), (b 6, eI cy 5 fwP), (c 0, eCli (gb (JP 0)) (c 1) (c 3) (c 5) (c 7) (nI (LLP 0).length) (c 8) (c 9) (nI (MsP 0).length)), (c 1, eScr (c 2)), (c 2, eJ cy 12 (SoP 0)), (c 3, eCch (c 4) (nI (CoP 0).length)), (c 4, eJ cy 6 (foP 0)), (c 5, eCch (c 6) (nI (CsP 0).length)), (c 6, eJ cy 6 (fcP 0)), (c 7, eI cy 12 (fdP 0)), (c 8, eI cy 12 (ftP 0)), (c 9, eJ cy 12 (fmP 0)), (d 0, eCli (gb (JP 1)) (d 1) (d 3) (d 5) (d 7) (nI (LLP 1).length) (d 8) (d 9) (nI (MsP 1).length)), (d 1, eScr (d 2)), (d 2, eJ cy 12 (SoP 1)), (d 3, eCch (d 4) (nI (CoP 1).length)), (d 4, eJ cy 6 (foP 1)), (d 5, eCch (d 6) (nI (CsP 1).length)), (d 6, eJ cy 6 (fcP 1)), (d 7, eI cy 12 (fdP 1)), (d 8, eI cy 12 (ftP 1)), (d 9, eJ cy 12 (fmP 1))] := hD
    refine lv_icmp_ne (tgt := 41) hx hb dL_areAlike_21 (by decide) (fun c_21 => ?_) (fun c_21 => ?_)
    · skip
      exact absurd (unl_eq h9 (by decide)) c_21
    · skip
      refine lv_aload_n hx hb dL_areAlike_24 rfl (lv_at hl 0 rfl) ?_
      refine lv_iconst (v := nI 1) hx hb dL_areAlike_25 (by decide) ?_
      refine gc_Yi (B0 := fun _ => True) (vx_runSW (As := [.ref (a 0), .int (nI 1)]) (rest := []) ⟨hx, hb, hml, hown, hts⟩ (c_L_unlike l hst D cy sa H.size a q r (fs, uw, fw, J, LL, So, Co, Cs, Ms) (fb, fd, ft, fo, fc, fm) 1 (by decide)) (vx_cwSW 2 hts gL_areAlike_L_unlike rfl rfl rfl (by decide +kernel) ⟨Nat.le_of_ble_eq_true rfl, Nat.le_of_ble_eq_true rfl⟩) (gpSY hG hE hN9 (hP.sub [0, 1, 2, 3, 4, 5, 6, 7, 8, 9, 10, 11, 12, 13, 14, 15, 16, 17, 18, 19, 20, 21, 22, 23, 24, 25, 26] rfl) (hD.sub [0, 1, 2, 3, 4, 5, 6, 7, 8, 9, 10, 11, 12, 13, 14, 15, 16, 17, 18, 19, 20, 21, 22, 23, 24, 25, 26] (by decide) rfl) hS hA) rfl rfl hl.1 rfl (lv_room (Nat.le_of_ble_eq_true rfl)) dL_areAlike_26 ⟨Nat.le_of_ble_eq_true rfl, Nat.le_of_ble_eq_true rfl⟩) hP hS hA (fun H locs hP hS => ?_)
      have hP : va_P D vwCl [(a 0, eTop (a 1) (a 3) (a 5) (a 6) uw), (a 1, eScr (a 2)), (a 2, eJ cy 12 fs), (a 3, eScr (a 4)), (a 4, eJ cy 12 fb), (a 5, eQ cy 2 (gQ q r)), (a 6, eI cy 5 fw), (q 0, eCli (gb (J 0)) (q 1) (q 3) (q 5) (q 7) (nI (LL 0).length) (q 8) (q 9) (nI (Ms 0).length)), (q 1, eScr (q 2)), (q 2, eJ cy 12 (So 0)), (q 3, eCch (q 4) (nI (Co 0).length)), (q 4, eJ cy 6 (fo 0)), (q 5, eCch (q 6) (nI (Cs 0).length)), (q 6, eJ cy 6 (fc 0)), (q 7, eI cy 12 (fd 0)), (q 8, eI cy 12 (ft 0)), (q 9, eJ cy 12 (fm 0)), (r 0, eCli (gb (J 1)) (r 1) (r 3) (r 5) (r 7) (nI (LL 1).length) (r 8) (r 9) (nI (Ms 1).length)), (r 1, eScr (r 2)), (r 2, eJ cy 12 (So 1)), (r 3, eCch (r 4) (nI (Co 1).length)), (r 4, eJ cy 6 (fo 1)), (r 5, eCch (r 6) (nI (Cs 1).length)), (r 6, eJ cy 6 (fc 1)), (r 7, eI cy 12 (fd 1)), (r 8, eI cy 12 (ft 1)), (r 9, eJ cy 12 (fm 1)), (b 0, eTop (b 1) (b 3) (b 5) (b 6) uwP), (b 1, eScr (b 2)), (b 2, eJ cy 12 fsP), (b 3, eScr (b 4)), (b 4, eJ cy 12 fbP), (b 5, eQ cy 2 (gQ c d)), (b 6, eI cy 5 fwP), (c 0, eCli (gb (JP 0)) (c 1) (c 3) (c 5) (c 7) (nI (LLP 0).length) (c 8) (c 9) (nI (MsP 0).length)), (c 1, eScr (c 2)), (c 2, eJ cy 12 (SoP 0)), (c 3, eCch (c 4) (nI (CoP 0).length)), (c 4, eJ cy 6 (foP 0)), (c 5, eCch (c 6) (nI (CsP 0).length)), (c 6, eJ cy 6 (fcP 0)), (c 7, eI cy 12 (fdP 0)), (c 8, eI cy 12 (ftP 0)), (c 9, eJ cy 12 (fmP 0)), (d 0, eCli (gb (JP 1)) (d 1) (d 3) (d 5) (d 7) (nI (LLP 1).length) (d 8) (d 9) (nI (MsP 1).length)), (d 1, eScr (d 2)), (d 2, eJ cy 12 (SoP 1)), (d 3, eCch (d 4) (nI (CoP 1).length)), (d 4, eJ cy 6 (foP 1)), (d 5, eCch (d 6) (nI (CsP 1).length)), (d 6, eJ cy 6 (fcP 1)), (d 7, eI cy 12 (fdP 1)), (d 8, eI cy 12 (ftP 1)), (d 9, eJ cy 12 (fmP 1))] H := hP
      have hD : va_D (fun _ => True) [(a 0, eTop (a 1) (a 3) (a 5) (a 6) uw), (a 1, eScr (a 2)), (a 2, eJ cy 12 fs), (a 3, eScr (a 4)), (a 4, eJ cy 12 fb), (a 5, eQ cy 2 (gQ q r)), (a 6, eI cy 5 fw), (q 0, eCli (gb (J 0)) (q 1) (q 3) (q 5) (q 7) (nI (LL 0).length) (q 8) (q 9) (nI (Ms 0).length)), (q 1, eScr (q 2)), (q 2, eJ cy 12 (So 0)), (q 3, eCch (q 4) (nI (Co 0).length)), (q 4, eJ cy 6 (fo 0)), (q 5, eCch (q 6) (nI (Cs 0).length)), (q 6, eJ cy 6 (fc 0)), (q 7, eI cy 12 (fd 0)), (q 8, eI cy 12 (ft 0)), (q 9, eJ cy 12 (fm 0)), (r 0, eCli (gb (J 1)) (r 1) (r 3) (r 5) (r 7) (nI (LL 1).length) (r 8) (r 9) (nI (Ms 1).length)), (r 1, eScr (r 2)), (r 2, eJ cy 12 (So 1)), (r 3, eCch (r 4) (nI (Co 1).length)), (r 4, eJ cy 6 (fo 1)), (r 5, eCch (r 6) (nI (Cs 1).length)), (r 6, eJ cy 6 (fc 1)), (r 7, eI cy 12 (fd 1)), (r 8, eI cy 12 (ft 1)), (r 9, eJ cy 12 (fm 1)), (b 0, eTop (b 1) (b 3) (b 5) (b 6) uwP), (b 1, eScr (b 2)), (b 2, eJ cy 12 fsP), (b 3, eScr (b 4)), (b 4, eJ cy 12 fbP), (b 5, eQ cy 2 (gQ c d)), (b 6, eI cy 5 fwP), (c 0, eCli (gb (JP 0)) (c 1) (c 3) (c 5) (c 7) (nI (LLP 0).length) (c 8) (c 9) (nI (MsP 0).length)), (c 1, eScr (c 2)), (c 2, eJ cy 12 (SoP 0)), (c 3, eCch (c 4) (nI (CoP 0).length)), (c 4, eJ cy 6 (foP 0)), (c 5, eCch (c 6) (nI (CsP 0).length)), (c 6, eJ cy 6 (fcP 0)), (c 7, eI cy 12 (fdP 0)), (c 8, eI cy 12 (ftP 0)), (c 9, eJ cy 12 (fmP 0)), (d 0, eCli (gb (JP 1)) (d 1) (d 3) (d 5) (d 7) (nI (LLP 1).length) (d 8) (d 9) (nI (MsP 1).length)), (d 1, eScr (d 2)), (d 2, eJ cy 12 (SoP 1)), (d 3, eCch (d 4) (nI (CoP 1).length)), (d 4, eJ cy 6 (foP 1)), (d 5, eCch (d 6) (nI (CsP 1).length)), (d 6, eJ cy 6 (fcP 1)), (d 7, eI cy 12 (fdP 1)), (d 8, eI cy 12 (ftP 1)), (d 9, eJ cy 12 (fmP 1))] := hD
      refine lv_aload_n hx hb dL_areAlike_29 rfl (lv_at hl 1 rfl) ?_
      refine lv_iconst (v := nI 1) hx hb dL_areAlike_30 (by decide) ?_
      refine gc_Yi (B0 := fun _ => True) (vx_runSW (As := [.ref (b 0), .int (nI 1)]) (rest := [.int (o_unl (fs, uw, fw, J, LL, So, Co, Cs, Ms) 1)]) ⟨hx, hb, hml, hown, hts⟩ (c_L_unlike l hst D cy sa H.size b c d (fsP, uwP, fwP, JP, LLP, SoP, CoP, CsP, MsP) (fbP, fdP, ftP, foP, fcP, fmP) 1 (by decide)) (vx_cwSW 2 hts gL_areAlike_L_unlike rfl rfl rfl (by decide +kernel) ⟨Nat.le_of_ble_eq_true rfl, Nat.le_of_ble_eq_true rfl⟩) (gpSY hG hE hN9 (hP.sub [27, 28, 29, 30, 31, 32, 33, 34, 35, 36, 37, 38, 39, 40, 41, 42, 43, 44, 45, 46, 47, 48, 49, 50, 51, 52, 53] rfl) (hD.sub [27, 28, 29, 30, 31, 32, 33, 34, 35, 36, 37, 38, 39, 40, 41, 42, 43, 44, 45, 46, 47, 48, 49, 50, 51, 52, 53] (by decide) rfl) hS hA) rfl rfl hl.1 rfl (lv_room (Nat.le_of_ble_eq_true rfl)) dL_areAlike_31 ⟨Nat.le_of_ble_eq_true rfl, Nat.le_of_ble_eq_true rfl⟩) hP hS hA (fun H locs hP hS => ?_)
      have hP : va_P D vwCl [(a 0, eTop (a 1) (a 3) (a 5) (a 6) uw), (a 1, eScr (a 2)), (a 2, eJ cy 12 fs), (a 3, eScr (a 4)), (a 4, eJ cy 12 fb), (a 5, eQ cy 2 (gQ q r)), (a 6, eI cy 5 fw), (q 0, eCli (gb (J 0)) (q 1) (q 3) (q 5) (q 7) (nI (LL 0).length) (q 8) (q 9) (nI (Ms 0).length)), (q 1, eScr (q 2)), (q 2, eJ cy 12 (So 0)), (q 3, eCch (q 4) (nI (Co 0).length)), (q 4, eJ cy 6 (fo 0)), (q 5, eCch (q 6) (nI (Cs 0).length)), (q 6, eJ cy 6 (fc 0)), (q 7, eI cy 12 (fd 0)), (q 8, eI cy 12 (ft 0)), (q 9, eJ cy 12 (fm 0)), (r 0, eCli (gb (J 1)) (r 1) (r 3) (r 5) (r 7) (nI (LL 1).length) (r 8) (r 9) (nI (Ms 1).length)), (r 1, eScr (r 2)), (r 2, eJ cy 12 (So 1)), (r 3, eCch (r 4) (nI (Co 1).length)), (r 4, eJ cy 6 (fo 1)), (r 5, eCch (r 6) (nI (Cs 1).length)), (r 6, eJ cy 6 (fc 1)), (r 7, eI cy 12 (fd 1)), (r 8, eI cy 12 (ft 1)), (r 9, eJ cy 12 (fm 1)), (b 0, eTop (b 1) (b 3) (b 5) (b 6) uwP), (b 1, eScr (b 2)), (b 2, eJ cy 12 fsP), (b 3, eScr (b 4)), (b 4, eJ cy 12 fbP), (b 5, eQ cy 2 (gQ c d)), (b 6, eI cy 5 fwP), (c 0, eCli (gb (JP 0)) (c 1) (c 3) (c 5) (c 7) (nI (LLP 0).length) (c 8) (c 9) (nI (MsP 0).length)), (c 1, eScr (c 2)), (c 2, eJ cy 12 (SoP 0)), (c 3, eCch (c 4) (nI (CoP 0).length)), (c 4, eJ cy 6 (foP 0)), (c 5, eCch (c 6) (nI (CsP 0).length)), (c 6, eJ cy 6 (fcP 0)), (c 7, eI cy 12 (fdP 0)), (c 8, eI cy 12 (ftP 0)), (c 9, eJ cy 12 (fmP 0)), (d 0, eCli (gb (JP 1)) (d 1) (d 3) (d 5) (d 7) (nI (LLP 1).length) (d 8) (d 9) (nI (MsP 1).length)), (d 1, eScr (d 2)), (d 2, eJ cy 12 (SoP 1)), (d 3, eCch (d 4) (nI (CoP 1).length)), (d 4, eJ cy 6 (foP 1)), (d 5, eCch (d 6) (nI (CsP 1).length)), (d 6, eJ cy 6 (fcP 1)), (d 7, eI cy 12 (fdP 1)), (d 8, eI cy 12 (ftP 1)), (d 9, eJ cy 12 (fmP 1))] H := hP
      have hD : va_D (fun _ => True) [(a 0, eTop (a 1) (a 3) (a 5) (a 6) uw), (a 1, eScr (a 2)), (a 2, eJ cy 12 fs), (a 3, eScr (a 4)), (a 4, eJ cy 12 fb), (a 5, eQ cy 2 (gQ q r)), (a 6, eI cy 5 fw), (q 0, eCli (gb (J 0)) (q 1) (q 3) (q 5) (q 7) (nI (LL 0).length) (q 8) (q 9) (nI (Ms 0).length)), (q 1, eScr (q 2)), (q 2, eJ cy 12 (So 0)), (q 3, eCch (q 4) (nI (Co 0).length)), (q 4, eJ cy 6 (fo 0)), (q 5, eCch (q 6) (nI (Cs 0).length)), (q 6, eJ cy 6 (fc 0)), (q 7, eI cy 12 (fd 0)), (q 8, eI cy 12 (ft 0)), (q 9, eJ cy 12 (fm 0)), (r 0, eCli (gb (J 1)) (r 1) (r 3) (r 5) (r 7) (nI (LL 1).length) (r 8) (r 9) (nI (Ms 1).length)), (r 1, eScr (r 2)), (r 2, eJ cy 12 (So 1)), (r 3, eCch (r 4) (nI (Co 1).length)), (r 4, eJ cy 6 (fo 1)), (r 5, eCch (r 6) (nI (Cs 1).length)), (r 6, eJ cy 6 (fc 1)), (r 7, eI cy 12 (fd 1)), (r 8, eI cy 12 (ft 1)), (r 9, eJ cy 12 (fm 1)), (b 0, eTop (b 1) (b 3) (b 5) (b 6) uwP), (b 1, eScr (b 2)), (b 2, eJ cy 12 fsP), (b 3, eScr (b 4)), (b 4, eJ cy 12 fbP), (b 5, eQ cy 2 (gQ c d)), (b 6, eI cy 5 fwP), (c 0, eCli (gb (JP 0)) (c 1) (c 3) (c 5) (c 7) (nI (LLP 0).length) (c 8) (c 9) (nI (MsP 0).length)), (c 1, eScr (c 2)), (c 2, eJ cy 12 (SoP 0)), (c 3, eCch (c 4) (nI (CoP 0).length)), (c 4, eJ cy 6 (foP 0)), (c 5, eCch (c 6) (nI (CsP 0).length)), (c 6, eJ cy 6 (fcP 0)), (c 7, eI cy 12 (fdP 0)), (c 8, eI cy 12 (ftP 0)), (c 9, eJ cy 12 (fmP 0)), (d 0, eCli (gb (JP 1)) (d 1) (d 3) (d 5) (d 7) (nI (LLP 1).length) (d 8) (d 9) (nI (MsP 1).length)), (d 1, eScr (d 2)), (d 2, eJ cy 12 (SoP 1)), (d 3, eCch (d 4) (nI (CoP 1).length)), (d 4, eJ cy 6 (foP 1)), (d 5, eCch (d 6) (nI (CsP 1).length)), (d 6, eJ cy 6 (fcP 1)), (d 7, eI cy 12 (fdP 1)), (d 8, eI cy 12 (ftP 1)), (d 9, eJ cy 12 (fmP 1))] := hD
      refine lv_icmp_ne (tgt := 41) hx hb dL_areAlike_34 (by decide) (fun c_34 => ?_) (fun c_34 => ?_)
      · skip
        exact absurd (unl_eq h9 (by decide)) c_34
      · skip
        refine lv_iconst (v := nI 1) hx hb dL_areAlike_37 (by decide) ?_
        refine lv_goto (tgt := 42) hx hb dL_areAlike_38 (by decide) ?_
        refine lv_istore_n (lv' := [(2, .int (nI 1)), (0, .ref (a 0)), (1, .ref (b 0))]) hx hb dL_areAlike_42 rfl hl (by decide) rfl (fun ls hl => ?_)
        refine lv_iconst (v := nI 0) hx hb dL_areAlike_43 (by decide) ?_
        refine lv_istore_n (lv' := [(3, .int (nI 0)), (2, .int (nI 1)), (0, .ref (a 0)), (1, .ref (b 0))]) hx hb dL_areAlike_44 rfl hl (by decide) rfl (fun ls hl => ?_)
        have loop_45 : ∀ (n9 : Nat) (t : Nat), 12 - t < n9 → (t ≤ 12) → ∀ (H : Heap) (locs : List Loc) (ls : Array Slot), va_P D vwCl [(a 0, eTop (a 1) (a 3) (a 5) (a 6) uw), (a 1, eScr (a 2)), (a 2, eJ cy 12 fs), (a 3, eScr (a 4)), (a 4, eJ cy 12 fb), (a 5, eQ cy 2 (gQ q r)), (a 6, eI cy 5 fw), (q 0, eCli (gb (J 0)) (q 1) (q 3) (q 5) (q 7) (nI (LL 0).length) (q 8) (q 9) (nI (Ms 0).length)), (q 1, eScr (q 2)), (q 2, eJ cy 12 (So 0)), (q 3, eCch (q 4) (nI (Co 0).length)), (q 4, eJ cy 6 (fo 0)), (q 5, eCch (q 6) (nI (Cs 0).length)), (q 6, eJ cy 6 (fc 0)), (q 7, eI cy 12 (fd 0)), (q 8, eI cy 12 (ft 0)), (q 9, eJ cy 12 (fm 0)), (r 0, eCli (gb (J 1)) (r 1) (r 3) (r 5) (r 7) (nI (LL 1).length) (r 8) (r 9) (nI (Ms 1).length)), (r 1, eScr (r 2)), (r 2, eJ cy 12 (So 1)), (r 3, eCch (r 4) (nI (Co 1).length)), (r 4, eJ cy 6 (fo 1)), (r 5, eCch (r 6) (nI (Cs 1).length)), (r 6, eJ cy 6 (fc 1)), (r 7, eI cy 12 (fd 1)), (r 8, eI cy 12 (ft 1)), (r 9, eJ cy 12 (fm 1)), (b 0, eTop (b 1) (b 3) (b 5) (b 6) uwP), (b 1, eScr (b 2)), (b 2, eJ cy 12 fsP), (b 3, eScr (b 4)), (b 4, eJ cy 12 fbP), (b 5, eQ cy 2 (gQ c d)), (b 6, eI cy 5 fwP), (c 0, eCli (gb (JP 0)) (c 1) (c 3) (c 5) (c 7) (nI (LLP 0).length) (c 8) (c 9) (nI (MsP 0).length)), (c 1, eScr (c 2)), (c 2, eJ cy 12 (SoP 0)), (c 3, eCch (c 4) (nI (CoP 0).length)), (c 4, eJ cy 6 (foP 0)), (c 5, eCch (c 6) (nI (CsP 0).length)), (c 6, eJ cy 6 (fcP 0)), (c 7, eI cy 12 (fdP 0)), (c 8, eI cy 12 (ftP 0)), (c 9, eJ cy 12 (fmP 0)), (d 0, eCli (gb (JP 1)) (d 1) (d 3) (d 5) (d 7) (nI (LLP 1).length) (d 8) (d 9) (nI (MsP 1).length)), (d 1, eScr (d 2)), (d 2, eJ cy 12 (SoP 1)), (d 3, eCch (d 4) (nI (CoP 1).length)), (d 4, eJ cy 6 (foP 1)), (d 5, eCch (d 6) (nI (CsP 1).length)), (d 6, eJ cy 6 (fcP 1)), (d 7, eI cy 12 (fdP 1)), (d 8, eI cy 12 (ftP 1)), (d 9, eJ cy 12 (fmP 1))] H → va_D (fun _ => True) [(a 0, eTop (a 1) (a 3) (a 5) (a 6) uw), (a 1, eScr (a 2)), (a 2, eJ cy 12 fs), (a 3, eScr (a 4)), (a 4, eJ cy 12 fb), (a 5, eQ cy 2 (gQ q r)), (a 6, eI cy 5 fw), (q 0, eCli (gb (J 0)) (q 1) (q 3) (q 5) (q 7) (nI (LL 0).length) (q 8) (q 9) (nI (Ms 0).length)), (q 1, eScr (q 2)), (q 2, eJ cy 12 (So 0)), (q 3, eCch (q 4) (nI (Co 0).length)), (q 4, eJ cy 6 (fo 0)), (q 5, eCch (q 6) (nI (Cs 0).length)), (q 6, eJ cy 6 (fc 0)), (q 7, eI cy 12 (fd 0)), (q 8, eI cy 12 (ft 0)), (q 9, eJ cy 12 (fm 0)), (r 0, eCli (gb (J 1)) (r 1) (r 3) (r 5) (r 7) (nI (LL 1).length) (r 8) (r 9) (nI (Ms 1).length)), (r 1, eScr (r 2)), (r 2, eJ cy 12 (So 1)), (r 3, eCch (r 4) (nI (Co 1).length)), (r 4, eJ cy 6 (fo 1)), (r 5, eCch (r 6) (nI (Cs 1).length)), (r 6, eJ cy 6 (fc 1)), (r 7, eI cy 12 (fd 1)), (r 8, eI cy 12 (ft 1)), (r 9, eJ cy 12 (fm 1)), (b 0, eTop (b 1) (b 3) (b 5) (b 6) uwP), (b 1, eScr (b 2)), (b 2, eJ cy 12 fsP), (b 3, eScr (b 4)), (b 4, eJ cy 12 fbP), (b 5, eQ cy 2 (gQ c d)), (b 6, eI cy 5 fwP), (c 0, eCli (gb (JP 0)) (c 1) (c 3) (c 5) (c 7) (nI (LLP 0).length) (c 8) (c 9) (nI (MsP 0).length)), (c 1, eScr (c 2)), (c 2, eJ cy 12 (SoP 0)), (c 3, eCch (c 4) (nI (CoP 0).length)), (c 4, eJ cy 6 (foP 0)), (c 5, eCch (c 6) (nI (CsP 0).length)), (c 6, eJ cy 6 (fcP 0)), (c 7, eI cy 12 (fdP 0)), (c 8, eI cy 12 (ftP 0)), (c 9, eJ cy 12 (fmP 0)), (d 0, eCli (gb (JP 1)) (d 1) (d 3) (d 5) (d 7) (nI (LLP 1).length) (d 8) (d 9) (nI (MsP 1).length)), (d 1, eScr (d 2)), (d 2, eJ cy 12 (SoP 1)), (d 3, eCch (d 4) (nI (CoP 1).length)), (d 4, eJ cy 6 (foP 1)), (d 5, eCch (d 6) (nI (CsP 1).length)), (d 6, eJ cy 6 (fcP 1)), (d 7, eI cy 12 (fdP 1)), (d 8, eI cy 12 (ftP 1)), (d 9, eJ cy 12 (fmP 1))] → va_S AA ss.heap H locs → lv_has ls 4 [(0, .ref (a 0)), (1, .ref (b 0)), (2, .int (nI 1)), (3, .int (nI t))] → W pp l ee ({ frames := 9, cells := 4, slots := 24, locals := 156 } : Room) ss mm ([.ref (a 0), .ref (b 0)] : List Value).toArray bw mt cd H locs 4 24 QQ (F0 mm 45 ls []) := by
          intro n9
          induction n9 with
          | zero => intro t h9; exact absurd h9 (Nat.not_lt_zero _)
          | succ n9 ih_45 =>
            intro t hm_45 ht9 H locs ls hP hD hS hl
            refine lv_iload_n hx hb dL_areAlike_45 rfl (lv_at hl 3 rfl) ?_
            refine lv_bipush (v := nI 12) hx hb dL_areAlike_46 (by decide) ?_
            refine lv_icmp_ge (tgt := 93) hx hb dL_areAlike_48 (by decide) (fun c_48 => ?_) (fun c_48 => ?_)
            · skip
              have c_48 : 12 ≤ t := (nI_leI (a := 12) (b := t) (by omega) (by omega)).mp c_48
              refine lv_iconst (v := nI 0) hx hb dL_areAlike_93 (by decide) ?_
              refine lv_istore_n (lv' := [(3, .int (nI 0)), (0, .ref (a 0)), (1, .ref (b 0)), (2, .int (nI 1))]) hx hb dL_areAlike_94 rfl hl (by decide) rfl (fun ls hl => ?_)
              have loop_95 : ∀ (n9 : Nat) (t : Nat), 5 - t < n9 → (t ≤ 5) → ∀ (H : Heap) (locs : List Loc) (ls : Array Slot), va_P D vwCl [(a 0, eTop (a 1) (a 3) (a 5) (a 6) uw), (a 1, eScr (a 2)), (a 2, eJ cy 12 fs), (a 3, eScr (a 4)), (a 4, eJ cy 12 fb), (a 5, eQ cy 2 (gQ q r)), (a 6, eI cy 5 fw), (q 0, eCli (gb (J 0)) (q 1) (q 3) (q 5) (q 7) (nI (LL 0).length) (q 8) (q 9) (nI (Ms 0).length)), (q 1, eScr (q 2)), (q 2, eJ cy 12 (So 0)), (q 3, eCch (q 4) (nI (Co 0).length)), (q 4, eJ cy 6 (fo 0)), (q 5, eCch (q 6) (nI (Cs 0).length)), (q 6, eJ cy 6 (fc 0)), (q 7, eI cy 12 (fd 0)), (q 8, eI cy 12 (ft 0)), (q 9, eJ cy 12 (fm 0)), (r 0, eCli (gb (J 1)) (r 1) (r 3) (r 5) (r 7) (nI (LL 1).length) (r 8) (r 9) (nI (Ms 1).length)), (r 1, eScr (r 2)), (r 2, eJ cy 12 (So 1)), (r 3, eCch (r 4) (nI (Co 1).length)), (r 4, eJ cy 6 (fo 1)), (r 5, eCch (r 6) (nI (Cs 1).length)), (r 6, eJ cy 6 (fc 1)), (r 7, eI cy 12 (fd 1)), (r 8, eI cy 12 (ft 1)), (r 9, eJ cy 12 (fm 1)), (b 0, eTop (b 1) (b 3) (b 5) (b 6) uwP), (b 1, eScr (b 2)), (b 2, eJ cy 12 fsP), (b 3, eScr (b 4)), (b 4, eJ cy 12 fbP), (b 5, eQ cy 2 (gQ c d)), (b 6, eI cy 5 fwP), (c 0, eCli (gb (JP 0)) (c 1) (c 3) (c 5) (c 7) (nI (LLP 0).length) (c 8) (c 9) (nI (MsP 0).length)), (c 1, eScr (c 2)), (c 2, eJ cy 12 (SoP 0)), (c 3, eCch (c 4) (nI (CoP 0).length)), (c 4, eJ cy 6 (foP 0)), (c 5, eCch (c 6) (nI (CsP 0).length)), (c 6, eJ cy 6 (fcP 0)), (c 7, eI cy 12 (fdP 0)), (c 8, eI cy 12 (ftP 0)), (c 9, eJ cy 12 (fmP 0)), (d 0, eCli (gb (JP 1)) (d 1) (d 3) (d 5) (d 7) (nI (LLP 1).length) (d 8) (d 9) (nI (MsP 1).length)), (d 1, eScr (d 2)), (d 2, eJ cy 12 (SoP 1)), (d 3, eCch (d 4) (nI (CoP 1).length)), (d 4, eJ cy 6 (foP 1)), (d 5, eCch (d 6) (nI (CsP 1).length)), (d 6, eJ cy 6 (fcP 1)), (d 7, eI cy 12 (fdP 1)), (d 8, eI cy 12 (ftP 1)), (d 9, eJ cy 12 (fmP 1))] H → va_D (fun _ => True) [(a 0, eTop (a 1) (a 3) (a 5) (a 6) uw), (a 1, eScr (a 2)), (a 2, eJ cy 12 fs), (a 3, eScr (a 4)), (a 4, eJ cy 12 fb), (a 5, eQ cy 2 (gQ q r)), (a 6, eI cy 5 fw), (q 0, eCli (gb (J 0)) (q 1) (q 3) (q 5) (q 7) (nI (LL 0).length) (q 8) (q 9) (nI (Ms 0).length)), (q 1, eScr (q 2)), (q 2, eJ cy 12 (So 0)), (q 3, eCch (q 4) (nI (Co 0).length)), (q 4, eJ cy 6 (fo 0)), (q 5, eCch (q 6) (nI (Cs 0).length)), (q 6, eJ cy 6 (fc 0)), (q 7, eI cy 12 (fd 0)), (q 8, eI cy 12 (ft 0)), (q 9, eJ cy 12 (fm 0)), (r 0, eCli (gb (J 1)) (r 1) (r 3) (r 5) (r 7) (nI (LL 1).length) (r 8) (r 9) (nI (Ms 1).length)), (r 1, eScr (r 2)), (r 2, eJ cy 12 (So 1)), (r 3, eCch (r 4) (nI (Co 1).length)), (r 4, eJ cy 6 (fo 1)), (r 5, eCch (r 6) (nI (Cs 1).length)), (r 6, eJ cy 6 (fc 1)), (r 7, eI cy 12 (fd 1)), (r 8, eI cy 12 (ft 1)), (r 9, eJ cy 12 (fm 1)), (b 0, eTop (b 1) (b 3) (b 5) (b 6) uwP), (b 1, eScr (b 2)), (b 2, eJ cy 12 fsP), (b 3, eScr (b 4)), (b 4, eJ cy 12 fbP), (b 5, eQ cy 2 (gQ c d)), (b 6, eI cy 5 fwP), (c 0, eCli (gb (JP 0)) (c 1) (c 3) (c 5) (c 7) (nI (LLP 0).length) (c 8) (c 9) (nI (MsP 0).length)), (c 1, eScr (c 2)), (c 2, eJ cy 12 (SoP 0)), (c 3, eCch (c 4) (nI (CoP 0).length)), (c 4, eJ cy 6 (foP 0)), (c 5, eCch (c 6) (nI (CsP 0).length)), (c 6, eJ cy 6 (fcP 0)), (c 7, eI cy 12 (fdP 0)), (c 8, eI cy 12 (ftP 0)), (c 9, eJ cy 12 (fmP 0)), (d 0, eCli (gb (JP 1)) (d 1) (d 3) (d 5) (d 7) (nI (LLP 1).length) (d 8) (d 9) (nI (MsP 1).length)), (d 1, eScr (d 2)), (d 2, eJ cy 12 (SoP 1)), (d 3, eCch (d 4) (nI (CoP 1).length)), (d 4, eJ cy 6 (foP 1)), (d 5, eCch (d 6) (nI (CsP 1).length)), (d 6, eJ cy 6 (fcP 1)), (d 7, eI cy 12 (fdP 1)), (d 8, eI cy 12 (ftP 1)), (d 9, eJ cy 12 (fmP 1))] → va_S AA ss.heap H locs → lv_has ls 4 [(0, .ref (a 0)), (1, .ref (b 0)), (2, .int (nI 1)), (3, .int (nI t))] → W pp l ee ({ frames := 9, cells := 4, slots := 24, locals := 156 } : Room) ss mm ([.ref (a 0), .ref (b 0)] : List Value).toArray bw mt cd H locs 4 24 QQ (F0 mm 95 ls []) := by
                intro n9
                induction n9 with
                | zero => intro t h9; exact absurd h9 (Nat.not_lt_zero _)
                | succ n9 ih_95 =>
                  intro t hm_95 ht9 H locs ls hP hD hS hl
                  refine lv_iload_n hx hb dL_areAlike_95 rfl (lv_at hl 3 rfl) ?_
                  refine lv_iconst (v := nI 5) hx hb dL_areAlike_96 (by decide) ?_
                  refine lv_icmp_ge (tgt := 129) hx hb dL_areAlike_97 (by decide) (fun c_97 => ?_) (fun c_97 => ?_)
                  · skip
                    have c_97 : 5 ≤ t := (nI_leI (a := 5) (b := t) (by omega) (by omega)).mp c_97
                    refine lv_iload_n hx hb dL_areAlike_129 rfl (lv_at hl 2 rfl) ?_
                    exact hret _ _ _ _ _ _ dL_areAlike_130 hS (Nat.le_of_ble_eq_true rfl) (Nat.le_of_ble_eq_true rfl)
                  · skip
                    have c_97 : ¬ 5 ≤ t := fun z => c_97 ((nI_leI (a := 5) (b := t) (by omega) (by omega)).mpr z)
                    refine lv_iload_n hx hb dL_areAlike_100 rfl (lv_at hl 2 rfl) ?_
                    refine lv_if_eq (tgt := 129) hx hb dL_areAlike_101 (by decide) (fun c_101 => ?_) (fun c_101 => ?_)
                    · skip
                      have c_101 : 1 = 0 := (nI_eq (a := 1) (b := 0) (by omega) (by omega)).mp c_101
                      exact absurd c_101 (by decide)
                    · skip
                      have c_101 : ¬ 1 = 0 := fun z => c_101 ((nI_eq (a := 1) (b := 0) (by omega) (by omega)).mpr z)
                      refine lv_aload_n hx hb dL_areAlike_104 rfl (lv_at hl 0 rfl) ?_
                      refine lv_iload_n hx hb dL_areAlike_105 rfl (lv_at hl 3 rfl) ?_
                      refine gc_Si (va_runV (As := [.int (nI t)]) (rest := []) ⟨hx, hb, hml, hown, hts⟩ (c_X3_written l D cy a uw fw t (by omega)) (cwV 1 hts gL_areAlike_X3_written rfl rfl rfl (by decide +kernel) ⟨Nat.le_of_ble_eq_true rfl, Nat.le_of_ble_eq_true rfl⟩) (gpVR (ci := 3) (q0 := 0) hG (hP.sub [0, 6] rfl) rfl rfl) rfl rfl hl.1 rfl (lv_room (Nat.le_of_ble_eq_true rfl)) dL_areAlike_106 ⟨Nat.le_of_ble_eq_true rfl, Nat.le_of_ble_eq_true rfl⟩) ?_
                      refine lv_aload_n hx hb dL_areAlike_109 rfl (lv_at hl 1 rfl) ?_
                      refine lv_iload_n hx hb dL_areAlike_110 rfl (lv_at hl 3 rfl) ?_
                      refine gc_Si (va_runV (As := [.int (nI t)]) (rest := [.int (fw t)]) ⟨hx, hb, hml, hown, hts⟩ (c_X3_written l D cy b uwP fwP t (by omega)) (cwV 1 hts gL_areAlike_X3_written rfl rfl rfl (by decide +kernel) ⟨Nat.le_of_ble_eq_true rfl, Nat.le_of_ble_eq_true rfl⟩) (gpVR (ci := 3) (q0 := 0) hG (hP.sub [27, 33] rfl) rfl rfl) rfl rfl hl.1 rfl (lv_room (Nat.le_of_ble_eq_true rfl)) dL_areAlike_111 ⟨Nat.le_of_ble_eq_true rfl, Nat.le_of_ble_eq_true rfl⟩) ?_
                      refine lv_icmp_ne (tgt := 121) hx hb dL_areAlike_114 (by decide) (fun c_114 => ?_) (fun c_114 => ?_)
                      · skip
                        exact absurd (congrFun hW t) c_114
                      · skip
                        refine lv_iconst (v := nI 1) hx hb dL_areAlike_117 (by decide) ?_
                        refine lv_goto (tgt := 122) hx hb dL_areAlike_118 (by decide) ?_
                        refine lv_istore_n (lv' := [(2, .int (nI 1)), (0, .ref (a 0)), (1, .ref (b 0)), (3, .int (nI t))]) hx hb dL_areAlike_122 rfl hl (by decide) rfl (fun ls hl => ?_)
                        refine lv_iinc (v := nI (t + 1)) (lv' := [(3, .int (nI (t + 1))), (2, .int (nI 1)), (0, .ref (a 0)), (1, .ref (b 0))]) hx hb dL_areAlike_123 hl (k := 3) rfl (nI_1 _) (by decide) rfl (fun ls hl => ?_)
                        refine lv_goto (tgt := 95) hx hb dL_areAlike_126 (by decide) ?_
                        exact ih_95 (t + 1) (by omega) (by omega) _ _ _ (hP.sub [0, 1, 2, 3, 4, 5, 6, 7, 8, 9, 10, 11, 12, 13, 14, 15, 16, 17, 18, 19, 20, 21, 22, 23, 24, 25, 26, 27, 28, 29, 30, 31, 32, 33, 34, 35, 36, 37, 38, 39, 40, 41, 42, 43, 44, 45, 46, 47, 48, 49, 50, 51, 52, 53] rfl) (hD.sub [0, 1, 2, 3, 4, 5, 6, 7, 8, 9, 10, 11, 12, 13, 14, 15, 16, 17, 18, 19, 20, 21, 22, 23, 24, 25, 26, 27, 28, 29, 30, 31, 32, 33, 34, 35, 36, 37, 38, 39, 40, 41, 42, 43, 44, 45, 46, 47, 48, 49, 50, 51, 52, 53] (by decide) rfl) hS (lv_sub hl [2, 3, 1, 0] rfl)
              exact loop_95 ((5 - 0) + 1) 0 (Nat.lt_succ_self _) (by omega) _ _ _ (hP.sub [0, 1, 2, 3, 4, 5, 6, 7, 8, 9, 10, 11, 12, 13, 14, 15, 16, 17, 18, 19, 20, 21, 22, 23, 24, 25, 26, 27, 28, 29, 30, 31, 32, 33, 34, 35, 36, 37, 38, 39, 40, 41, 42, 43, 44, 45, 46, 47, 48, 49, 50, 51, 52, 53] rfl) (hD.sub [0, 1, 2, 3, 4, 5, 6, 7, 8, 9, 10, 11, 12, 13, 14, 15, 16, 17, 18, 19, 20, 21, 22, 23, 24, 25, 26, 27, 28, 29, 30, 31, 32, 33, 34, 35, 36, 37, 38, 39, 40, 41, 42, 43, 44, 45, 46, 47, 48, 49, 50, 51, 52, 53] (by decide) rfl) hS (lv_sub hl [1, 2, 3, 0] rfl)
            · skip
              have c_48 : ¬ 12 ≤ t := fun z => c_48 ((nI_leI (a := 12) (b := t) (by omega) (by omega)).mpr z)
              refine lv_iload_n hx hb dL_areAlike_51 rfl (lv_at hl 2 rfl) ?_
              refine lv_if_eq (tgt := 93) hx hb dL_areAlike_52 (by decide) (fun c_52 => ?_) (fun c_52 => ?_)
              · skip
                have c_52 : 1 = 0 := (nI_eq (a := 1) (b := 0) (by omega) (by omega)).mp c_52
                exact absurd c_52 (by decide)
              · skip
                have c_52 : ¬ 1 = 0 := fun z => c_52 ((nI_eq (a := 1) (b := 0) (by omega) (by omega)).mpr z)
                refine lv_aload_n hx hb dL_areAlike_55 rfl (lv_at hl 0 rfl) ?_
                refine lv_iload_n hx hb dL_areAlike_56 rfl (lv_at hl 3 rfl) ?_
                refine gc_Si (va_runV (As := [.int (nI t)]) (rest := []) ⟨hx, hb, hml, hown, hts⟩ (c_X3_runs l D cy a uw fs t (by omega)) (cwV 1 hts gL_areAlike_X3_runs rfl rfl rfl (by decide +kernel) ⟨Nat.le_of_ble_eq_true rfl, Nat.le_of_ble_eq_true rfl⟩) (gpVR (ci := 3) (q0 := 0) hG (hP.sub [0, 1, 2] rfl) rfl rfl) rfl rfl hl.1 rfl (lv_room (Nat.le_of_ble_eq_true rfl)) dL_areAlike_57 ⟨Nat.le_of_ble_eq_true rfl, Nat.le_of_ble_eq_true rfl⟩) ?_
                refine lv_aload_n hx hb dL_areAlike_60 rfl (lv_at hl 1 rfl) ?_
                refine lv_iload_n hx hb dL_areAlike_61 rfl (lv_at hl 3 rfl) ?_
                refine gc_Si (va_runV (As := [.int (nI t)]) (rest := [.int (nI (nRun (fs t)))]) ⟨hx, hb, hml, hown, hts⟩ (c_X3_runs l D cy b uwP fsP t (by omega)) (cwV 1 hts gL_areAlike_X3_runs rfl rfl rfl (by decide +kernel) ⟨Nat.le_of_ble_eq_true rfl, Nat.le_of_ble_eq_true rfl⟩) (gpVR (ci := 3) (q0 := 0) hG (hP.sub [27, 28, 29] rfl) rfl rfl) rfl rfl hl.1 rfl (lv_room (Nat.le_of_ble_eq_true rfl)) dL_areAlike_62 ⟨Nat.le_of_ble_eq_true rfl, Nat.le_of_ble_eq_true rfl⟩) ?_
                refine lv_icmp_ne (tgt := 85) hx hb dL_areAlike_65 (by decide) (fun c_65 => ?_) (fun c_65 => ?_)
                · skip
                  have c_65 : ¬ (nRun (fs t)) = (nRun (fsP t)) := fun z => c_65 ((nI_eq (a := (nRun (fs t))) (b := (nRun (fsP t))) (Nat.lt_of_le_of_lt (nRun_le _) (by decide)) (Nat.lt_of_le_of_lt (nRun_le _) (by decide))).mpr z)
                  exact absurd (congrArg nRun (hF t (by omega))) c_65
                · skip
                  have c_65 : (nRun (fs t)) = (nRun (fsP t)) := (nI_eq (a := (nRun (fs t))) (b := (nRun (fsP t))) (Nat.lt_of_le_of_lt (nRun_le _) (by decide)) (Nat.lt_of_le_of_lt (nRun_le _) (by decide))).mp c_65
                  refine lv_aload_n hx hb dL_areAlike_68 rfl (lv_at hl 0 rfl) ?_
                  refine lv_iload_n hx hb dL_areAlike_69 rfl (lv_at hl 3 rfl) ?_
                  refine gc_Si (va_runV (As := [.int (nI t)]) (rest := []) ⟨hx, hb, hml, hown, hts⟩ (c_X3_colours l D cy a uw fs t (by omega)) (cwV 1 hts gL_areAlike_X3_colours rfl rfl rfl (by decide +kernel) ⟨Nat.le_of_ble_eq_true rfl, Nat.le_of_ble_eq_true rfl⟩) (gpVR (ci := 3) (q0 := 0) hG (hP.sub [0, 1, 2] rfl) rfl rfl) rfl rfl hl.1 rfl (lv_room (Nat.le_of_ble_eq_true rfl)) dL_areAlike_70 ⟨Nat.le_of_ble_eq_true rfl, Nat.le_of_ble_eq_true rfl⟩) ?_
                  refine lv_aload_n hx hb dL_areAlike_73 rfl (lv_at hl 1 rfl) ?_
                  refine lv_iload_n hx hb dL_areAlike_74 rfl (lv_at hl 3 rfl) ?_
                  refine gc_Si (va_runV (As := [.int (nI t)]) (rest := [.int (nI (nCol (fs t)))]) ⟨hx, hb, hml, hown, hts⟩ (c_X3_colours l D cy b uwP fsP t (by omega)) (cwV 1 hts gL_areAlike_X3_colours rfl rfl rfl (by decide +kernel) ⟨Nat.le_of_ble_eq_true rfl, Nat.le_of_ble_eq_true rfl⟩) (gpVR (ci := 3) (q0 := 0) hG (hP.sub [27, 28, 29] rfl) rfl rfl) rfl rfl hl.1 rfl (lv_room (Nat.le_of_ble_eq_true rfl)) dL_areAlike_75 ⟨Nat.le_of_ble_eq_true rfl, Nat.le_of_ble_eq_true rfl⟩) ?_
                  refine lv_icmp_ne (tgt := 85) hx hb dL_areAlike_78 (by decide) (fun c_78 => ?_) (fun c_78 => ?_)
                  · skip
                    have c_78 : ¬ (nCol (fs t)) = (nCol (fsP t)) := fun z => c_78 ((nI_eq (a := (nCol (fs t))) (b := (nCol (fsP t))) (Nat.lt_of_le_of_lt (nCol_le _) (by decide)) (Nat.lt_of_le_of_lt (nCol_le _) (by decide))).mpr z)
                    exact absurd (congrArg nCol (hF t (by omega))) c_78
                  · skip
                    have c_78 : (nCol (fs t)) = (nCol (fsP t)) := (nI_eq (a := (nCol (fs t))) (b := (nCol (fsP t))) (Nat.lt_of_le_of_lt (nCol_le _) (by decide)) (Nat.lt_of_le_of_lt (nCol_le _) (by decide))).mp c_78
                    refine lv_iconst (v := nI 1) hx hb dL_areAlike_81 (by decide) ?_
                    refine lv_goto (tgt := 86) hx hb dL_areAlike_82 (by decide) ?_
                    refine lv_istore_n (lv' := [(2, .int (nI 1)), (0, .ref (a 0)), (1, .ref (b 0)), (3, .int (nI t))]) hx hb dL_areAlike_86 rfl hl (by decide) rfl (fun ls hl => ?_)
                    refine lv_iinc (v := nI (t + 1)) (lv' := [(3, .int (nI (t + 1))), (2, .int (nI 1)), (0, .ref (a 0)), (1, .ref (b 0))]) hx hb dL_areAlike_87 hl (k := 3) rfl (nI_1 _) (by decide) rfl (fun ls hl => ?_)
                    refine lv_goto (tgt := 45) hx hb dL_areAlike_90 (by decide) ?_
                    exact ih_45 (t + 1) (by omega) (by omega) _ _ _ (hP.sub [0, 1, 2, 3, 4, 5, 6, 7, 8, 9, 10, 11, 12, 13, 14, 15, 16, 17, 18, 19, 20, 21, 22, 23, 24, 25, 26, 27, 28, 29, 30, 31, 32, 33, 34, 35, 36, 37, 38, 39, 40, 41, 42, 43, 44, 45, 46, 47, 48, 49, 50, 51, 52, 53] rfl) (hD.sub [0, 1, 2, 3, 4, 5, 6, 7, 8, 9, 10, 11, 12, 13, 14, 15, 16, 17, 18, 19, 20, 21, 22, 23, 24, 25, 26, 27, 28, 29, 30, 31, 32, 33, 34, 35, 36, 37, 38, 39, 40, 41, 42, 43, 44, 45, 46, 47, 48, 49, 50, 51, 52, 53] (by decide) rfl) hS (lv_sub hl [2, 3, 1, 0] rfl)
        exact loop_45 ((12 - 0) + 1) 0 (Nat.lt_succ_self _) (by omega) _ _ _ (hP.sub [0, 1, 2, 3, 4, 5, 6, 7, 8, 9, 10, 11, 12, 13, 14, 15, 16, 17, 18, 19, 20, 21, 22, 23, 24, 25, 26, 27, 28, 29, 30, 31, 32, 33, 34, 35, 36, 37, 38, 39, 40, 41, 42, 43, 44, 45, 46, 47, 48, 49, 50, 51, 52, 53] rfl) (hD.sub [0, 1, 2, 3, 4, 5, 6, 7, 8, 9, 10, 11, 12, 13, 14, 15, 16, 17, 18, 19, 20, 21, 22, 23, 24, 25, 26, 27, 28, 29, 30, 31, 32, 33, 34, 35, 36, 37, 38, 39, 40, 41, 42, 43, 44, 45, 46, 47, 48, 49, 50, 51, 52, 53] (by decide) rfl) hS (lv_sub hl [2, 3, 1, 0] rfl)
set_option maxHeartbeats 4000000 in
set_option maxRecDepth 100000 in
theorem c_L_isShownSo (l : Launch) (hst : l.stackTraces = false) (D : va_G) (cy : Nat → ClassId) (sa : Nat → Nat) (sz : Nat) (a q r : Nat → Nat) (x : ob_T) (y : ob_K) (hk : ob_k x y) (n : Nat) (hi : inv x n) (hn : n < 1073741824) : Met l yL_isShownSo wsL_isShownSo ({ frames := 9, cells := 2, slots := 12, locals := 153 } : Room) (va_Pc [.ref (a 0), .int (nI 0)] (gZ D (gT cy) sa (va_A (ob_w cy a q r x y) sz) (ob_w cy a q r x y) sz)) (va_Qi (fun (r9 : Int32) (u : ob_T × ob_K) => (r9 = nI 1 ∧ r_show x u.1) ∧ ob_k u.1 u.2) (gO D (fun u : ob_T × ob_K => ob_w cy a q r u.1 u.2) (va_A (ob_w cy a q r x y) sz)) (va_A (ob_w cy a q r x y) sz)) 2 12 (va_A (ob_w cy a q r x y) sz) := by
  refine gW_z (cc := cL_isShownSo) (maxL := 6) (ty := .boolean) (by decide) rfl (Nat.le_of_ble_eq_true rfl) (fun v u hv => by rw [hv.1.1]; rfl) ?_
  intro pp ee ss mm bw mt cd QQ AA ls hfx hP hG hD hA hE hN9 hret hl
  obtain ⟨hx, hb, hml, hown, hts, hlocks⟩ := hfx
  have hown : ss.vm.findClass RL = some mm.cls := hown
  have hl : lv_has ls 6 [(0, .ref (a 0)), (1, .int (nI 0))] := hl
  have hS : va_S AA ss.heap ss.heap [] := va_S.rf
  obtain ⟨H, eH⟩ : ∃ H, H = ss.heap := ⟨_, rfl⟩
  obtain ⟨locs, eL⟩ : ∃ L : List Loc, L = [] := ⟨_, rfl⟩
  have hP : va_P D vwCl (ob_w cy a q r x y) H := by rw [eH]; exact hP
  have hS : va_S AA ss.heap H locs := by rw [eH, eL]; exact hS
  have goal : ∀ X Y, X = H → Y = locs → W pp l ee ({ frames := 9, cells := 2, slots := 12, locals := 153 } : Room) ss mm ([.ref (a 0), .int (nI 0)] : List Value).toArray bw mt cd X Y 0 0 QQ (F0 mm 0 ls []) → W pp l ee ({ frames := 9, cells := 2, slots := 12, locals := 153 } : Room) ss mm ([.ref (a 0), .int (nI 0)] : List Value).toArray bw mt cd ss.heap [] 0 0 QQ (F0 mm 0 ls []) := fun X Y hX hY h => by rw [hX, hY, eH, eL] at h; exact h
  refine goal H locs rfl rfl ?_
  clear goal eH eL
  refine lv_aload_n hx hb dL_isShownSo_0 rfl (lv_at hl 0 rfl) ?_
  refine lv_iload_n hx hb dL_isShownSo_1 rfl (lv_at hl 1 rfl) ?_
  refine gc_Zi (wn := fun u : ob_T × ob_K => ob_w cy a q r u.1 u.2) (wr := []) (vx_runSW (As := [.ref (a 0), .int (nI 0)]) (rest := []) ⟨hx, hb, hml, hown, hts⟩ (c_L_answer l hst D cy sa H.size a q r x y hk (nI 0)) (vx_cwSW 2 hts gL_isShownSo_L_answer rfl rfl rfl (by decide +kernel) ⟨Nat.le_of_ble_eq_true rfl, Nat.le_of_ble_eq_true rfl⟩) (gpSZ hG hE hN9 hP hD hS hA [0, 1, 2, 3, 4, 5, 6, 7, 8, 9, 10, 11, 12, 13, 14, 15, 16, 17, 18, 19, 20, 21, 22, 23, 24, 25, 26] rfl (by decide)) rfl rfl hl.1 rfl (lv_room (Nat.le_of_ble_eq_true rfl)) dL_isShownSo_2 ⟨Nat.le_of_ble_eq_true rfl, Nat.le_of_ble_eq_true rfl⟩) hP hD hS hA [0, 1, 2, 3, 4, 5, 6, 7, 8, 9, 10, 11, 12, 13, 14, 15, 16, 17, 18, 19, 20, 21, 22, 23, 24, 25, 26] [] [0, 1, 2, 3, 4, 5, 6, 7, 8, 9, 10, 11, 12, 13, 14, 15, 16, 17, 18, 19, 20, 21, 22, 23, 24, 25, 26] rfl rfl (by decide) (by decide) (fun _ => rfl) (by decide) (fun r_2 u H locs hw_2 hP hD hS => ?_)
  obtain ⟨⟨fs, uw, fw, J, LL, So, Co, Cs, Ms⟩, ⟨fb, fd, ft, fo, fc, fm⟩⟩ := u
  have hP : va_P D vwCl [(a 0, eTop (a 1) (a 3) (a 5) (a 6) uw), (a 1, eScr (a 2)), (a 2, eJ cy 12 fs), (a 3, eScr (a 4)), (a 4, eJ cy 12 fb), (a 5, eQ cy 2 (gQ q r)), (a 6, eI cy 5 fw), (q 0, eCli (gb (J 0)) (q 1) (q 3) (q 5) (q 7) (nI (LL 0).length) (q 8) (q 9) (nI (Ms 0).length)), (q 1, eScr (q 2)), (q 2, eJ cy 12 (So 0)), (q 3, eCch (q 4) (nI (Co 0).length)), (q 4, eJ cy 6 (fo 0)), (q 5, eCch (q 6) (nI (Cs 0).length)), (q 6, eJ cy 6 (fc 0)), (q 7, eI cy 12 (fd 0)), (q 8, eI cy 12 (ft 0)), (q 9, eJ cy 12 (fm 0)), (r 0, eCli (gb (J 1)) (r 1) (r 3) (r 5) (r 7) (nI (LL 1).length) (r 8) (r 9) (nI (Ms 1).length)), (r 1, eScr (r 2)), (r 2, eJ cy 12 (So 1)), (r 3, eCch (r 4) (nI (Co 1).length)), (r 4, eJ cy 6 (fo 1)), (r 5, eCch (r 6) (nI (Cs 1).length)), (r 6, eJ cy 6 (fc 1)), (r 7, eI cy 12 (fd 1)), (r 8, eI cy 12 (ft 1)), (r 9, eJ cy 12 (fm 1))] H := hP
  have hD : va_D AA [(a 0, eTop (a 1) (a 3) (a 5) (a 6) uw), (a 1, eScr (a 2)), (a 2, eJ cy 12 fs), (a 3, eScr (a 4)), (a 4, eJ cy 12 fb), (a 5, eQ cy 2 (gQ q r)), (a 6, eI cy 5 fw), (q 0, eCli (gb (J 0)) (q 1) (q 3) (q 5) (q 7) (nI (LL 0).length) (q 8) (q 9) (nI (Ms 0).length)), (q 1, eScr (q 2)), (q 2, eJ cy 12 (So 0)), (q 3, eCch (q 4) (nI (Co 0).length)), (q 4, eJ cy 6 (fo 0)), (q 5, eCch (q 6) (nI (Cs 0).length)), (q 6, eJ cy 6 (fc 0)), (q 7, eI cy 12 (fd 0)), (q 8, eI cy 12 (ft 0)), (q 9, eJ cy 12 (fm 0)), (r 0, eCli (gb (J 1)) (r 1) (r 3) (r 5) (r 7) (nI (LL 1).length) (r 8) (r 9) (nI (Ms 1).length)), (r 1, eScr (r 2)), (r 2, eJ cy 12 (So 1)), (r 3, eCch (r 4) (nI (Co 1).length)), (r 4, eJ cy 6 (fo 1)), (r 5, eCch (r 6) (nI (Cs 1).length)), (r 6, eJ cy 6 (fc 1)), (r 7, eI cy 12 (fd 1)), (r 8, eI cy 12 (ft 1)), (r 9, eJ cy 12 (fm 1))] := hD
  have hX : ob_ok LL Co Cs Ms fd ft fo fc fm := hw_2.2
  obtain ⟨rO, rCs, rCo, rM, rN, rCo2, rCs2, rM2⟩ := id hX
  obtain ⟨i1, i2, i3, i4, i5, i6, i7, i8⟩ := ans_0 hi hw_2.1
  have i2 : (Ms 0).length = 0 := i2
  have i3 : Co 0 = Cs 0 := i3
  have hJ : J 0 := i1.2.1
  have hU : uw = nI n := i1.2.2
  have z1 := okD_len (rO 0 (by decide))
  refine lv_istore_n (lv' := [(2, .int r_2), (0, .ref (a 0)), (1, .int (nI 0))]) hx hb dL_isShownSo_5 rfl hl (by decide) rfl (fun ls hl => ?_)
  refine lv_iload_n hx hb dL_isShownSo_6 rfl (lv_at hl 0 rfl) ?_
  refine lv_if_eq (tgt := 18) hx hb dL_isShownSo_7 (by decide) (fun c_7 => ?_) (fun c_7 => ?_)
  · skip
    exact absurd c_7 i4
  · skip
    refine lv_aload_n hx hb dL_isShownSo_10 rfl (lv_at hl 1 rfl) ?_
    refine lv_iload_n hx hb dL_isShownSo_11 rfl (lv_at hl 2 rfl) ?_
    refine gc_Si (va_runV (As := [.int (nI 0)]) (rest := []) ⟨hx, hb, hml, hown, hts⟩ (c_X3_isAlike l D cy a q uw (gQ q r) (J 0) (nI (LL 0).length) (nI (Ms 0).length) 0 (Co 0) (fo 0) (Cs 0) (fc 0) (by decide) rfl hJ (rCo2 0 (by decide)) (rCo 0 (by decide)) (rCs2 0 (by decide)) (rCs 0 (by decide))) (cwV 1 hts gL_isShownSo_X3_isAlike rfl rfl rfl (by decide +kernel) ⟨Nat.le_of_ble_eq_true rfl, Nat.le_of_ble_eq_true rfl⟩) (gpVR (ci := 3) (q0 := 0) hG (hP.sub [0, 5, 7, 10, 11, 12, 13] rfl) rfl rfl) rfl rfl hl.1 rfl (lv_room (Nat.le_of_ble_eq_true rfl)) dL_isShownSo_12 ⟨Nat.le_of_ble_eq_true rfl, Nat.le_of_ble_eq_true rfl⟩) ?_
    refine lv_if_ne (tgt := 20) hx hb dL_isShownSo_15 (by decide) (fun c_15 => ?_) (fun c_15 => ?_)
    · skip
      have c_15 : (Cs 0) = (Co 0) := gb_ne0.mp c_15
      refine lv_aload_n hx hb dL_isShownSo_20 rfl (lv_at hl 1 rfl) ?_
      refine lv_iload_n hx hb dL_isShownSo_21 rfl (lv_at hl 2 rfl) ?_
      refine gc_Si (va_runV (As := [.int (nI 0)]) (rest := []) ⟨hx, hb, hml, hown, hts⟩ (c_X3_dirty l D cy a q uw (gQ q r) (J 0) (nI (LL 0).length) (nI (Ms 0).length) 0 (by decide) rfl hJ) (cwV 1 hts gL_isShownSo_X3_dirty rfl rfl rfl (by decide +kernel) ⟨Nat.le_of_ble_eq_true rfl, Nat.le_of_ble_eq_true rfl⟩) (gpVR (ci := 3) (q0 := 0) hG (hP.sub [0, 5, 7] rfl) rfl rfl) rfl rfl hl.1 rfl (lv_room (Nat.le_of_ble_eq_true rfl)) dL_isShownSo_22 ⟨Nat.le_of_ble_eq_true rfl, Nat.le_of_ble_eq_true rfl⟩) ?_
      refine lv_istore_n (lv' := [(3, .int (nI (LL 0).length)), (2, .int r_2), (0, .ref (a 0)), (1, .int (nI 0))]) hx hb dL_isShownSo_25 rfl hl (by decide) rfl (fun ls hl => ?_)
      refine lv_aload_n hx hb dL_isShownSo_26 rfl (lv_at hl 2 rfl) ?_
      refine gc_Si (va_runV (As := []) (rest := []) ⟨hx, hb, hml, hown, hts⟩ (c_X3_units l D cy a uw) (cwV 0 hts gL_isShownSo_X3_units rfl rfl rfl (by decide +kernel) ⟨Nat.le_of_ble_eq_true rfl, Nat.le_of_ble_eq_true rfl⟩) (gpVR (ci := 3) (q0 := 0) hG (hP.sub [0] rfl) rfl rfl) rfl rfl hl.1 rfl (lv_room (Nat.le_of_ble_eq_true rfl)) dL_isShownSo_27 ⟨Nat.le_of_ble_eq_true rfl, Nat.le_of_ble_eq_true rfl⟩) ?_
      refine g_ti (y := nI (n)) (hU) ?_
      refine lv_istore (lv' := [(4, .int (nI n)), (3, .int (nI (LL 0).length)), (2, .int r_2), (0, .ref (a 0)), (1, .int (nI 0))]) hx hb dL_isShownSo_30 hl (by decide) rfl (fun ls hl => ?_)
      refine lv_aload_n hx hb dL_isShownSo_32 rfl (lv_at hl 3 rfl) ?_
      refine lv_iload_n hx hb dL_isShownSo_33 rfl (lv_at hl 4 rfl) ?_
      refine lv_sipush (v := nI 300) hx hb dL_isShownSo_34 (by decide) ?_
      rw [i2] at hP hD
      have hP : va_P D vwCl [(a 0, eTop (a 1) (a 3) (a 5) (a 6) uw), (a 1, eScr (a 2)), (a 2, eJ cy 12 fs), (a 3, eScr (a 4)), (a 4, eJ cy 12 fb), (a 5, eQ cy 2 (gQ q r)), (a 6, eI cy 5 fw), (q 0, eCli (gb (J 0)) (q 1) (q 3) (q 5) (q 7) (nI (LL 0).length) (q 8) (q 9) (nI 0)), (q 1, eScr (q 2)), (q 2, eJ cy 12 (So 0)), (q 3, eCch (q 4) (nI (Co 0).length)), (q 4, eJ cy 6 (fo 0)), (q 5, eCch (q 6) (nI (Cs 0).length)), (q 6, eJ cy 6 (fc 0)), (q 7, eI cy 12 (fd 0)), (q 8, eI cy 12 (ft 0)), (q 9, eJ cy 12 (fm 0)), (r 0, eCli (gb (J 1)) (r 1) (r 3) (r 5) (r 7) (nI (LL 1).length) (r 8) (r 9) (nI (Ms 1).length)), (r 1, eScr (r 2)), (r 2, eJ cy 12 (So 1)), (r 3, eCch (r 4) (nI (Co 1).length)), (r 4, eJ cy 6 (fo 1)), (r 5, eCch (r 6) (nI (Cs 1).length)), (r 6, eJ cy 6 (fc 1)), (r 7, eI cy 12 (fd 1)), (r 8, eI cy 12 (ft 1)), (r 9, eJ cy 12 (fm 1))] H := hP
      have hD : va_D AA [(a 0, eTop (a 1) (a 3) (a 5) (a 6) uw), (a 1, eScr (a 2)), (a 2, eJ cy 12 fs), (a 3, eScr (a 4)), (a 4, eJ cy 12 fb), (a 5, eQ cy 2 (gQ q r)), (a 6, eI cy 5 fw), (q 0, eCli (gb (J 0)) (q 1) (q 3) (q 5) (q 7) (nI (LL 0).length) (q 8) (q 9) (nI 0)), (q 1, eScr (q 2)), (q 2, eJ cy 12 (So 0)), (q 3, eCch (q 4) (nI (Co 0).length)), (q 4, eJ cy 6 (fo 0)), (q 5, eCch (q 6) (nI (Cs 0).length)), (q 6, eJ cy 6 (fc 0)), (q 7, eI cy 12 (fd 0)), (q 8, eI cy 12 (ft 0)), (q 9, eJ cy 12 (fm 0)), (r 0, eCli (gb (J 1)) (r 1) (r 3) (r 5) (r 7) (nI (LL 1).length) (r 8) (r 9) (nI (Ms 1).length)), (r 1, eScr (r 2)), (r 2, eJ cy 12 (So 1)), (r 3, eCch (r 4) (nI (Co 1).length)), (r 4, eJ cy 6 (fo 1)), (r 5, eCch (r 6) (nI (Cs 1).length)), (r 6, eJ cy 6 (fc 1)), (r 7, eI cy 12 (fd 1)), (r 8, eI cy 12 (ft 1)), (r 9, eJ cy 12 (fm 1))] := hD
      refine gc_Wi (wn := fun u => [(a 0, eTop (a 1) (a 3) (a 5) (a 6) (uw + nI (300 - u.2.2.2.2.2.2.2.1))), (a 1, eScr (a 2)), (a 2, eJ cy 12 fs), (a 3, eScr (a 4)), (a 4, eJ cy 12 fb), (a 5, eQ cy 2 (gQ q r)), (a 6, eI cy 5 u.2.2.2.2.2.2.2.2), (q 0, eCli (gb ((J 0))) (q 1) (q 3) (q 5) (q 7) (nI u.1.length) (q 8) (q 9) (nI u.2.2.1.length)), (q 1, eScr (q 2)), (q 2, eJ cy 12 (So 0)), (q 3, eCch (q 4) (nI (Co 0).length)), (q 4, eJ cy 6 (fo 0)), (q 5, eCch (q 6) (nI u.2.2.2.2.2.1.length)), (q 6, eJ cy 6 u.2.2.2.2.2.2.1), (q 7, eI cy 12 u.2.1), (q 8, eI cy 12 u.2.2.2.1), (q 9, eJ cy 12 u.2.2.2.2.1), (r 0, eCli (gb (J 1)) (r 1) (r 3) (r 5) (r 7) (nI (LL 1).length) (r 8) (r 9) (nI (Ms 1).length)), (r 1, eScr (r 2)), (r 2, eJ cy 12 (So 1)), (r 3, eCch (r 4) (nI (Co 1).length)), (r 4, eJ cy 6 (fo 1)), (r 5, eCch (r 6) (nI (Cs 1).length)), (r 6, eJ cy 6 (fc 1)), (r 7, eI cy 12 (fd 1)), (r 8, eI cy 12 (ft 1)), (r 9, eJ cy 12 (fm 1))]) (wr := [(a 3, eScr (a 4)), (a 4, eJ cy 12 fb), (q 1, eScr (q 2)), (q 2, eJ cy 12 (So 0)), (q 3, eCch (q 4) (nI (Co 0).length)), (q 4, eJ cy 6 (fo 0)), (r 0, eCli (gb (J 1)) (r 1) (r 3) (r 5) (r 7) (nI (LL 1).length) (r 8) (r 9) (nI (Ms 1).length)), (r 1, eScr (r 2)), (r 2, eJ cy 12 (So 1)), (r 3, eCch (r 4) (nI (Co 1).length)), (r 4, eJ cy 6 (fo 1)), (r 5, eCch (r 6) (nI (Cs 1).length)), (r 6, eJ cy 6 (fc 1)), (r 7, eI cy 12 (fd 1)), (r 8, eI cy 12 (ft 1)), (r 9, eJ cy 12 (fm 1))]) (va_runV (As := [.int (nI 0), .int (nI 300)]) (rest := []) ⟨hx, hb, hml, hown, hts⟩ (c_X3_ask l D cy H.size a q uw (gQ q r) 0 fs fw (J 0) (LL 0) (fd 0) (Cs 0) (fc 0) (ft 0) (fm 0) 300 (by decide) rfl hJ (rN 0 (by decide)) (rO 0 (by decide)) (rCs2 0 (by decide)) (rCs 0 (by decide)) (Nat.le_refl 300)) (cwV 2 hts gL_isShownSo_X3_ask rfl rfl rfl (by decide +kernel) ⟨Nat.le_of_ble_eq_true rfl, Nat.le_of_ble_eq_true rfl⟩) (gpVI (ci := 3) (q0 := 0) hG (hP.sub [0, 1, 2, 6, 7, 12, 13, 14, 15, 16, 5] rfl) (hD.sub [0, 1, 2, 6, 7, 12, 13, 14, 15, 16, 5] (by decide) rfl) rfl rfl) rfl rfl hl.1 rfl (lv_room (Nat.le_of_ble_eq_true rfl)) dL_isShownSo_37 ⟨Nat.le_of_ble_eq_true rfl, Nat.le_of_ble_eq_true rfl⟩) hP hD hS hA [0, 1, 2, 6, 7, 12, 13, 14, 15, 16, 5] [3, 4, 8, 9, 10, 11, 17, 18, 19, 20, 21, 22, 23, 24, 25, 26] [16, 17, 18, 0, 1, 26, 19, 20, 2, 3, 4, 5, 21, 22, 23, 24, 25, 6, 7, 8, 9, 10, 11, 12, 13, 14, 15] rfl rfl (by decide) (by decide) (fun _ => rfl) (by decide) (fun r_37 u9 H locs hw_37 hP hD hS => ?_)
      obtain ⟨L2_37, fd2_37, M2_37, ft2_37, fm2_37, C2_37, fc2_37, left2_37, fw2_37⟩ := u9
      have hP : va_P D vwCl [(a 0, eTop (a 1) (a 3) (a 5) (a 6) (uw + nI (300 - left2_37))), (a 1, eScr (a 2)), (a 2, eJ cy 12 fs), (a 3, eScr (a 4)), (a 4, eJ cy 12 fb), (a 5, eQ cy 2 (gQ q r)), (a 6, eI cy 5 fw2_37), (q 0, eCli (gb ((J 0))) (q 1) (q 3) (q 5) (q 7) (nI L2_37.length) (q 8) (q 9) (nI M2_37.length)), (q 1, eScr (q 2)), (q 2, eJ cy 12 (So 0)), (q 3, eCch (q 4) (nI (Co 0).length)), (q 4, eJ cy 6 (fo 0)), (q 5, eCch (q 6) (nI C2_37.length)), (q 6, eJ cy 6 fc2_37), (q 7, eI cy 12 fd2_37), (q 8, eI cy 12 ft2_37), (q 9, eJ cy 12 fm2_37), (r 0, eCli (gb (J 1)) (r 1) (r 3) (r 5) (r 7) (nI (LL 1).length) (r 8) (r 9) (nI (Ms 1).length)), (r 1, eScr (r 2)), (r 2, eJ cy 12 (So 1)), (r 3, eCch (r 4) (nI (Co 1).length)), (r 4, eJ cy 6 (fo 1)), (r 5, eCch (r 6) (nI (Cs 1).length)), (r 6, eJ cy 6 (fc 1)), (r 7, eI cy 12 (fd 1)), (r 8, eI cy 12 (ft 1)), (r 9, eJ cy 12 (fm 1))] H := hP
      have hD : va_D AA [(a 0, eTop (a 1) (a 3) (a 5) (a 6) (uw + nI (300 - left2_37))), (a 1, eScr (a 2)), (a 2, eJ cy 12 fs), (a 3, eScr (a 4)), (a 4, eJ cy 12 fb), (a 5, eQ cy 2 (gQ q r)), (a 6, eI cy 5 fw2_37), (q 0, eCli (gb ((J 0))) (q 1) (q 3) (q 5) (q 7) (nI L2_37.length) (q 8) (q 9) (nI M2_37.length)), (q 1, eScr (q 2)), (q 2, eJ cy 12 (So 0)), (q 3, eCch (q 4) (nI (Co 0).length)), (q 4, eJ cy 6 (fo 0)), (q 5, eCch (q 6) (nI C2_37.length)), (q 6, eJ cy 6 fc2_37), (q 7, eI cy 12 fd2_37), (q 8, eI cy 12 ft2_37), (q 9, eJ cy 12 fm2_37), (r 0, eCli (gb (J 1)) (r 1) (r 3) (r 5) (r 7) (nI (LL 1).length) (r 8) (r 9) (nI (Ms 1).length)), (r 1, eScr (r 2)), (r 2, eJ cy 12 (So 1)), (r 3, eCch (r 4) (nI (Co 1).length)), (r 4, eJ cy 6 (fo 1)), (r 5, eCch (r 6) (nI (Cs 1).length)), (r 6, eJ cy 6 (fc 1)), (r 7, eI cy 12 (fd 1)), (r 8, eI cy 12 (ft 1)), (r 9, eJ cy 12 (fm 1))] := hD
      obtain ⟨hr_37, hw_37⟩ := hw_37
      refine g_ti (y := nI M2_37.length) hr_37 ?_
      have hw_37 : askF fs (LL 0) [] (Cs 0) 300 fw = (L2_37, M2_37, C2_37, left2_37, fw2_37) ∧ hN L2_37 fd2_37 ∧ hM M2_37 ft2_37 fm2_37 ∧ okM M2_37 ∧ M2_37.length ≤ 12 ∧ hC C2_37 fc2_37 ∧ C2_37.length ≤ 6 ∧ left2_37 ≤ 300 ∧ okD L2_37 := hw_37
      obtain ⟨w1, w2, w3, w4, w5, w6, w7, w8, w9⟩ := hw_37
      obtain ⟨k1, k2, k3, k4, k5, k6, k7, k8⟩ := ask_0 i1 i2 w1
      subst k1
      have k2 : M2_37.length = (LL 0).length := k2
      have k3 : 2 * (LL 0).length ≤ 300 - left2_37 := k3
      have k4 : 300 - left2_37 ≤ 17 * (LL 0).length := k4
      have k5 : (LL 0).length ≤ 12 := k5
      have hP : va_P D vwCl [(a 0, eTop (a 1) (a 3) (a 5) (a 6) (uw + nI (300 - left2_37))), (a 1, eScr (a 2)), (a 2, eJ cy 12 fs), (a 3, eScr (a 4)), (a 4, eJ cy 12 fb), (a 5, eQ cy 2 (gQ q r)), (a 6, eI cy 5 fw2_37), (q 0, eCli (gb ((J 0))) (q 1) (q 3) (q 5) (q 7) (nI 0) (q 8) (q 9) (nI M2_37.length)), (q 1, eScr (q 2)), (q 2, eJ cy 12 (So 0)), (q 3, eCch (q 4) (nI (Co 0).length)), (q 4, eJ cy 6 (fo 0)), (q 5, eCch (q 6) (nI C2_37.length)), (q 6, eJ cy 6 fc2_37), (q 7, eI cy 12 fd2_37), (q 8, eI cy 12 ft2_37), (q 9, eJ cy 12 fm2_37), (r 0, eCli (gb (J 1)) (r 1) (r 3) (r 5) (r 7) (nI (LL 1).length) (r 8) (r 9) (nI (Ms 1).length)), (r 1, eScr (r 2)), (r 2, eJ cy 12 (So 1)), (r 3, eCch (r 4) (nI (Co 1).length)), (r 4, eJ cy 6 (fo 1)), (r 5, eCch (r 6) (nI (Cs 1).length)), (r 6, eJ cy 6 (fc 1)), (r 7, eI cy 12 (fd 1)), (r 8, eI cy 12 (ft 1)), (r 9, eJ cy 12 (fm 1))] H := hP
      have hD : va_D AA [(a 0, eTop (a 1) (a 3) (a 5) (a 6) (uw + nI (300 - left2_37))), (a 1, eScr (a 2)), (a 2, eJ cy 12 fs), (a 3, eScr (a 4)), (a 4, eJ cy 12 fb), (a 5, eQ cy 2 (gQ q r)), (a 6, eI cy 5 fw2_37), (q 0, eCli (gb ((J 0))) (q 1) (q 3) (q 5) (q 7) (nI 0) (q 8) (q 9) (nI M2_37.length)), (q 1, eScr (q 2)), (q 2, eJ cy 12 (So 0)), (q 3, eCch (q 4) (nI (Co 0).length)), (q 4, eJ cy 6 (fo 0)), (q 5, eCch (q 6) (nI C2_37.length)), (q 6, eJ cy 6 fc2_37), (q 7, eI cy 12 fd2_37), (q 8, eI cy 12 ft2_37), (q 9, eJ cy 12 fm2_37), (r 0, eCli (gb (J 1)) (r 1) (r 3) (r 5) (r 7) (nI (LL 1).length) (r 8) (r 9) (nI (Ms 1).length)), (r 1, eScr (r 2)), (r 2, eJ cy 12 (So 1)), (r 3, eCch (r 4) (nI (Co 1).length)), (r 4, eJ cy 6 (fo 1)), (r 5, eCch (r 6) (nI (Cs 1).length)), (r 6, eJ cy 6 (fc 1)), (r 7, eI cy 12 (fd 1)), (r 8, eI cy 12 (ft 1)), (r 9, eJ cy 12 (fm 1))] := hD
      refine g_ti (y := nI (LL 0).length) (congrArg nI k2) ?_
      refine lv_istore (lv' := [(5, .int (nI ((LL 0).length))), (4, .int (nI n)), (3, .int (nI (LL 0).length)), (2, .int r_2), (0, .ref (a 0)), (1, .int (nI 0))]) hx hb dL_isShownSo_40 hl (by decide) rfl (fun ls hl => ?_)
      refine lv_iload hx hb dL_isShownSo_42 (lv_at hl 0 rfl) ?_
      refine lv_iload_n hx hb dL_isShownSo_44 rfl (lv_at hl 2 rfl) ?_
      refine lv_icmp_ne (tgt := 85) hx hb dL_isShownSo_45 (by decide) (fun c_45 => ?_) (fun c_45 => ?_)
      · skip
        exact absurd rfl c_45
      · skip
        refine lv_aload_n hx hb dL_isShownSo_48 rfl (lv_at hl 4 rfl) ?_
        refine lv_iload_n hx hb dL_isShownSo_49 rfl (lv_at hl 5 rfl) ?_
        refine gc_Si (va_runV (As := [.int (nI 0)]) (rest := []) ⟨hx, hb, hml, hown, hts⟩ (c_X3_dirty l D cy a q (uw + nI (300 - left2_37)) (gQ q r) (J 0) (nI 0) (nI M2_37.length) 0 (by decide) rfl hJ) (cwV 1 hts gL_isShownSo_X3_dirty rfl rfl rfl (by decide +kernel) ⟨Nat.le_of_ble_eq_true rfl, Nat.le_of_ble_eq_true rfl⟩) (gpVR (ci := 3) (q0 := 0) hG (hP.sub [0, 5, 7] rfl) rfl rfl) rfl rfl hl.1 rfl (lv_room (Nat.le_of_ble_eq_true rfl)) dL_isShownSo_50 ⟨Nat.le_of_ble_eq_true rfl, Nat.le_of_ble_eq_true rfl⟩) ?_
        refine lv_if_ne (tgt := 85) hx hb dL_isShownSo_53 (by decide) (fun c_53 => ?_) (fun c_53 => ?_)
        · skip
          have c_53 : ¬ 0 = 0 := fun z => c_53 ((nI_eq (a := 0) (b := 0) (by omega) (by omega)).mpr z)
          exact absurd c_53 (by decide)
        · skip
          have c_53 : 0 = 0 := (nI_eq (a := 0) (b := 0) (by omega) (by omega)).mp c_53
          refine lv_aload_n hx hb dL_isShownSo_56 rfl (lv_at hl 4 rfl) ?_
          refine gc_Si (va_runV (As := []) (rest := []) ⟨hx, hb, hml, hown, hts⟩ (c_X3_units l D cy a (uw + nI (300 - left2_37))) (cwV 0 hts gL_isShownSo_X3_units rfl rfl rfl (by decide +kernel) ⟨Nat.le_of_ble_eq_true rfl, Nat.le_of_ble_eq_true rfl⟩) (gpVR (ci := 3) (q0 := 0) hG (hP.sub [0] rfl) rfl rfl) rfl rfl hl.1 rfl (lv_room (Nat.le_of_ble_eq_true rfl)) dL_isShownSo_57 ⟨Nat.le_of_ble_eq_true rfl, Nat.le_of_ble_eq_true rfl⟩) ?_
          refine g_ti (y := nI (n + (300 - left2_37))) (by rw [hU]; exact nI_add _ _) ?_
          refine lv_iload hx hb dL_isShownSo_60 (lv_at hl 1 rfl) ?_
          refine lv_iconst (v := nI 2) hx hb dL_isShownSo_62 (by decide) ?_
          refine lv_iload hx hb dL_isShownSo_63 (lv_at hl 0 rfl) ?_
          refine lv_imul hx hb dL_isShownSo_65 ?_
          refine g_ti (y := nI (2 * ((LL 0).length))) (pk_mul _ _) ?_
          refine lv_iadd hx hb dL_isShownSo_66 ?_
          refine g_ti (y := nI (n + (2 * ((LL 0).length)))) (nI_add _ _) ?_
          refine lv_icmp_lt (tgt := 85) hx hb dL_isShownSo_67 (by decide) (fun c_67 => ?_) (fun c_67 => ?_)
          · skip
            have c_67 : (n + (300 - left2_37)) < (n + (2 * ((LL 0).length))) := (nI_ltI (a := (n + (300 - left2_37))) (b := (n + (2 * ((LL 0).length)))) (by omega) (by omega)).mp c_67
            exact absurd c_67 (by omega)
          · skip
            have c_67 : ¬ (n + (300 - left2_37)) < (n + (2 * ((LL 0).length))) := fun z => c_67 ((nI_ltI (a := (n + (300 - left2_37))) (b := (n + (2 * ((LL 0).length)))) (by omega) (by omega)).mpr z)
            refine lv_aload_n hx hb dL_isShownSo_70 rfl (lv_at hl 4 rfl) ?_
            refine gc_Si (va_runV (As := []) (rest := []) ⟨hx, hb, hml, hown, hts⟩ (c_X3_units l D cy a (uw + nI (300 - left2_37))) (cwV 0 hts gL_isShownSo_X3_units rfl rfl rfl (by decide +kernel) ⟨Nat.le_of_ble_eq_true rfl, Nat.le_of_ble_eq_true rfl⟩) (gpVR (ci := 3) (q0 := 0) hG (hP.sub [0] rfl) rfl rfl) rfl rfl hl.1 rfl (lv_room (Nat.le_of_ble_eq_true rfl)) dL_isShownSo_71 ⟨Nat.le_of_ble_eq_true rfl, Nat.le_of_ble_eq_true rfl⟩) ?_
            refine g_ti (y := nI (n + (300 - left2_37))) (by rw [hU]; exact nI_add _ _) ?_
            refine lv_iload hx hb dL_isShownSo_74 (lv_at hl 1 rfl) ?_
            refine lv_bipush (v := nI 17) hx hb dL_isShownSo_76 (by decide) ?_
            refine lv_iload hx hb dL_isShownSo_78 (lv_at hl 0 rfl) ?_
            refine lv_imul hx hb dL_isShownSo_80 ?_
            refine g_ti (y := nI (17 * ((LL 0).length))) (pk_mul _ _) ?_
            refine lv_iadd hx hb dL_isShownSo_81 ?_
            refine g_ti (y := nI (n + (17 * ((LL 0).length)))) (nI_add _ _) ?_
            refine lv_icmp_le (tgt := 87) hx hb dL_isShownSo_82 (by decide) (fun c_82 => ?_) (fun c_82 => ?_)
            · skip
              have c_82 : (n + (300 - left2_37)) ≤ (n + (17 * ((LL 0).length))) := (nI_leI (a := (n + (300 - left2_37))) (b := (n + (17 * ((LL 0).length)))) (by omega) (by omega)).mp c_82
              refine lv_aload_n hx hb dL_isShownSo_87 rfl (lv_at hl 4 rfl) ?_
              refine lv_iload_n hx hb dL_isShownSo_88 rfl (lv_at hl 5 rfl) ?_
              have hk2 : ob_k (fs, uw + nI (300 - left2_37), fw2_37, J, upC 0 [] LL, So, Co, upC 0 C2_37 Cs, upC 0 M2_37 Ms) (fb, upC 0 fd2_37 fd, upC 0 ft2_37 ft, fo, upC 0 fc2_37 fc, upC 0 fm2_37 fm) := ⟨(two9 (w9) (rO 1 (by decide))), (two9 (w7) (rCs 1 (by decide))), rCo, (two9 (⟨w5, w4⟩) (rM 1 (by decide))), (two9 (w2) (rN 1 (by decide))), rCo2, (two9 (w6) (rCs2 1 (by decide))), (two9 (w3) (rM2 1 (by decide)))⟩
              have hP : va_P D vwCl (ob_w cy a q r (fs, uw + nI (300 - left2_37), fw2_37, J, upC 0 [] LL, So, Co, upC 0 C2_37 Cs, upC 0 M2_37 Ms) (fb, upC 0 fd2_37 fd, upC 0 ft2_37 ft, fo, upC 0 fc2_37 fc, upC 0 fm2_37 fm)) H := hP
              have hD : va_D AA (ob_w cy a q r (fs, uw + nI (300 - left2_37), fw2_37, J, upC 0 [] LL, So, Co, upC 0 C2_37 Cs, upC 0 M2_37 Ms) (fb, upC 0 fd2_37 fd, upC 0 ft2_37 ft, fo, upC 0 fc2_37 fc, upC 0 fm2_37 fm)) := hD
              have k7 : r_ask (fs, uw, fw, J, LL, So, Co, Cs, Ms) (nI 0) (nI 300) (nI M2_37.length) (fs, uw + nI (300 - left2_37), fw2_37, J, upC 0 [] LL, So, Co, upC 0 C2_37 Cs, upC 0 M2_37 Ms) := k7
              have k8 : inv (fs, uw + nI (300 - left2_37), fw2_37, J, upC 0 [] LL, So, Co, upC 0 C2_37 Cs, upC 0 M2_37 Ms) (n + (300 - left2_37)) := k8
              refine gc_Zi (wn := fun u : ob_T × ob_K => ob_w cy a q r u.1 u.2) (wr := []) (vx_runSW (As := [.ref (a 0), .int (nI 0)]) (rest := []) ⟨hx, hb, hml, hown, hts⟩ (c_L_answer l hst D cy sa H.size a q r ((fs, uw + nI (300 - left2_37), fw2_37, J, upC 0 [] LL, So, Co, upC 0 C2_37 Cs, upC 0 M2_37 Ms)) ((fb, upC 0 fd2_37 fd, upC 0 ft2_37 ft, fo, upC 0 fc2_37 fc, upC 0 fm2_37 fm)) hk2 (nI 0)) (vx_cwSW 2 hts gL_isShownSo_L_answer rfl rfl rfl (by decide +kernel) ⟨Nat.le_of_ble_eq_true rfl, Nat.le_of_ble_eq_true rfl⟩) (gpSZ hG hE hN9 hP hD hS hA [0, 1, 2, 3, 4, 5, 6, 7, 8, 9, 10, 11, 12, 13, 14, 15, 16, 17, 18, 19, 20, 21, 22, 23, 24, 25, 26] rfl (by decide)) rfl rfl hl.1 rfl (lv_room (Nat.le_of_ble_eq_true rfl)) dL_isShownSo_89 ⟨Nat.le_of_ble_eq_true rfl, Nat.le_of_ble_eq_true rfl⟩) hP hD hS hA [0, 1, 2, 3, 4, 5, 6, 7, 8, 9, 10, 11, 12, 13, 14, 15, 16, 17, 18, 19, 20, 21, 22, 23, 24, 25, 26] [] [0, 1, 2, 3, 4, 5, 6, 7, 8, 9, 10, 11, 12, 13, 14, 15, 16, 17, 18, 19, 20, 21, 22, 23, 24, 25, 26] rfl rfl (by decide) (by decide) (fun _ => rfl) (by decide) (fun r_89 u H locs hw_89 hP hD hS => ?_)
              obtain ⟨⟨fs3, uw3, fw3, J3, LL3, So3, Co3, Cs3, Ms3⟩, ⟨fb3, fd3, ft3, fo3, fc3, fm3⟩⟩ := u
              have hP : va_P D vwCl [(a 0, eTop (a 1) (a 3) (a 5) (a 6) uw3), (a 1, eScr (a 2)), (a 2, eJ cy 12 fs3), (a 3, eScr (a 4)), (a 4, eJ cy 12 fb3), (a 5, eQ cy 2 (gQ q r)), (a 6, eI cy 5 fw3), (q 0, eCli (gb (J3 0)) (q 1) (q 3) (q 5) (q 7) (nI (LL3 0).length) (q 8) (q 9) (nI (Ms3 0).length)), (q 1, eScr (q 2)), (q 2, eJ cy 12 (So3 0)), (q 3, eCch (q 4) (nI (Co3 0).length)), (q 4, eJ cy 6 (fo3 0)), (q 5, eCch (q 6) (nI (Cs3 0).length)), (q 6, eJ cy 6 (fc3 0)), (q 7, eI cy 12 (fd3 0)), (q 8, eI cy 12 (ft3 0)), (q 9, eJ cy 12 (fm3 0)), (r 0, eCli (gb (J3 1)) (r 1) (r 3) (r 5) (r 7) (nI (LL3 1).length) (r 8) (r 9) (nI (Ms3 1).length)), (r 1, eScr (r 2)), (r 2, eJ cy 12 (So3 1)), (r 3, eCch (r 4) (nI (Co3 1).length)), (r 4, eJ cy 6 (fo3 1)), (r 5, eCch (r 6) (nI (Cs3 1).length)), (r 6, eJ cy 6 (fc3 1)), (r 7, eI cy 12 (fd3 1)), (r 8, eI cy 12 (ft3 1)), (r 9, eJ cy 12 (fm3 1))] H := hP
              have hD : va_D AA [(a 0, eTop (a 1) (a 3) (a 5) (a 6) uw3), (a 1, eScr (a 2)), (a 2, eJ cy 12 fs3), (a 3, eScr (a 4)), (a 4, eJ cy 12 fb3), (a 5, eQ cy 2 (gQ q r)), (a 6, eI cy 5 fw3), (q 0, eCli (gb (J3 0)) (q 1) (q 3) (q 5) (q 7) (nI (LL3 0).length) (q 8) (q 9) (nI (Ms3 0).length)), (q 1, eScr (q 2)), (q 2, eJ cy 12 (So3 0)), (q 3, eCch (q 4) (nI (Co3 0).length)), (q 4, eJ cy 6 (fo3 0)), (q 5, eCch (q 6) (nI (Cs3 0).length)), (q 6, eJ cy 6 (fc3 0)), (q 7, eI cy 12 (fd3 0)), (q 8, eI cy 12 (ft3 0)), (q 9, eJ cy 12 (fm3 0)), (r 0, eCli (gb (J3 1)) (r 1) (r 3) (r 5) (r 7) (nI (LL3 1).length) (r 8) (r 9) (nI (Ms3 1).length)), (r 1, eScr (r 2)), (r 2, eJ cy 12 (So3 1)), (r 3, eCch (r 4) (nI (Co3 1).length)), (r 4, eJ cy 6 (fo3 1)), (r 5, eCch (r 6) (nI (Cs3 1).length)), (r 6, eJ cy 6 (fc3 1)), (r 7, eI cy 12 (fd3 1)), (r 8, eI cy 12 (ft3 1)), (r 9, eJ cy 12 (fm3 1))] := hD
              have hX : ob_ok LL3 Co3 Cs3 Ms3 fd3 ft3 fo3 fc3 fm3 := hw_89.2
              obtain ⟨rO, rCs, rCo, rM, rN, rCo2, rCs2, rM2⟩ := id hX
              obtain ⟨m1, m2, m3, m4, m5, m6, m7, m8⟩ := ans_0 k8 hw_89.1
              have m3 : Co3 0 = Cs3 0 := m3
              have hJ3 : J3 0 := m1.2.1
              have m5 : LL3 0 = [] := m5
              have m9 : ∀ t, t < 12 → So3 0 t = fs3 t := fun t ht => (m6 t ht).elim (fun z => by have z : t ∈ LL3 0 := z; rw [m5] at z; exact absurd z List.not_mem_nil) id
              have m7 : (LL 0).length = 0 → r_89 = k99 := fun z => m7 (k2.trans z)
              have m8 : 0 < (LL 0).length → r_89 = nI (LL 0).length := fun z => (m8 (by show 0 < M2_37.length; omega)).trans (congrArg nI k2)
              refine lv_iload hx hb dL_isShownSo_92 (lv_at hl 0 rfl) ?_
              refine lv_if_ne (tgt := 102) hx hb dL_isShownSo_94 (by decide) (fun c_94 => ?_) (fun c_94 => ?_)
              · skip
                have c_94 : ¬ ((LL 0).length) = 0 := fun z => c_94 ((nI_eq (a := ((LL 0).length)) (b := 0) (by omega) (by omega)).mpr z)
                refine lv_iload hx hb dL_isShownSo_102 (lv_at hl 0 rfl) ?_
                refine lv_icmp_ne (tgt := 127) hx hb dL_isShownSo_104 (by decide) (fun c_104 => ?_) (fun c_104 => ?_)
                · skip
                  first | exact absurd (m8 (by omega)) c_104 | exact absurd (m7 (by omega)) c_104
                · skip
                  refine lv_aload_n hx hb dL_isShownSo_107 rfl (lv_at hl 4 rfl) ?_
                  refine lv_iload_n hx hb dL_isShownSo_108 rfl (lv_at hl 5 rfl) ?_
                  refine gc_Si (va_runV (As := [.int (nI 0)]) (rest := []) ⟨hx, hb, hml, hown, hts⟩ (c_X3_unlike l D cy a q uw3 (gQ q r) (J3 0) (nI (LL3 0).length) (nI (Ms3 0).length) 0 fs3 (So3 0) (by decide) rfl hJ3) (cwV 1 hts gL_isShownSo_X3_unlike rfl rfl rfl (by decide +kernel) ⟨Nat.le_of_ble_eq_true rfl, Nat.le_of_ble_eq_true rfl⟩) (gpVR (ci := 3) (q0 := 0) hG (hP.sub [0, 5, 7, 1, 2, 8, 9] rfl) rfl rfl) rfl rfl hl.1 rfl (lv_room (Nat.le_of_ble_eq_true rfl)) dL_isShownSo_109 ⟨Nat.le_of_ble_eq_true rfl, Nat.le_of_ble_eq_true rfl⟩) ?_
                  refine g_ti (y := nI 0) (congrArg nI (sumD_0 12 (fun k hk => m9 k hk))) ?_
                  refine lv_if_ne (tgt := 127) hx hb dL_isShownSo_112 (by decide) (fun c_112 => ?_) (fun c_112 => ?_)
                  · skip
                    have c_112 : ¬ 0 = 0 := fun z => c_112 ((nI_eq (a := 0) (b := 0) (by omega) (by omega)).mpr z)
                    exact absurd c_112 (by decide)
                  · skip
                    have c_112 : 0 = 0 := (nI_eq (a := 0) (b := 0) (by omega) (by omega)).mp c_112
                    refine lv_aload_n hx hb dL_isShownSo_115 rfl (lv_at hl 4 rfl) ?_
                    refine lv_iload_n hx hb dL_isShownSo_116 rfl (lv_at hl 5 rfl) ?_
                    refine gc_Si (va_runV (As := [.int (nI 0)]) (rest := []) ⟨hx, hb, hml, hown, hts⟩ (c_X3_isAlike l D cy a q uw3 (gQ q r) (J3 0) (nI (LL3 0).length) (nI (Ms3 0).length) 0 (Co3 0) (fo3 0) (Cs3 0) (fc3 0) (by decide) rfl hJ3 (rCo2 0 (by decide)) (rCo 0 (by decide)) (rCs2 0 (by decide)) (rCs 0 (by decide))) (cwV 1 hts gL_isShownSo_X3_isAlike rfl rfl rfl (by decide +kernel) ⟨Nat.le_of_ble_eq_true rfl, Nat.le_of_ble_eq_true rfl⟩) (gpVR (ci := 3) (q0 := 0) hG (hP.sub [0, 5, 7, 10, 11, 12, 13] rfl) rfl rfl) rfl rfl hl.1 rfl (lv_room (Nat.le_of_ble_eq_true rfl)) dL_isShownSo_117 ⟨Nat.le_of_ble_eq_true rfl, Nat.le_of_ble_eq_true rfl⟩) ?_
                    refine lv_if_eq (tgt := 127) hx hb dL_isShownSo_120 (by decide) (fun c_120 => ?_) (fun c_120 => ?_)
                    · skip
                      have c_120 : ¬ ((Cs3 0) = (Co3 0)) := gb_eq0.mp c_120
                      exact absurd (m3.symm) c_120
                    · skip
                      have c_120 : (Cs3 0) = (Co3 0) := gb_ne0.mp c_120
                      refine lv_iconst (v := nI 1) hx hb dL_isShownSo_123 (by decide) ?_
                      refine lv_goto (tgt := 128) hx hb dL_isShownSo_124 (by decide) ?_
                      exact hret _ _ _ _ _ _ _ (((fs3), (uw3), (fw3), J3, LL3, So3, Co3, Cs3, Ms3), ((fb3), fd3, ft3, fo3, fc3, fm3)) dL_isShownSo_128 ⟨⟨rfl, (fs, uw, fw, J, LL, So, Co, Cs, Ms), (fs, uw + nI (300 - left2_37), fw2_37, J, upC 0 [] LL, So, Co, upC 0 C2_37 Cs, upC 0 M2_37 Ms), r_2, _, r_89, hw_2.1, k7, hw_89.1⟩, hX⟩ hP hD hS (Nat.le_of_ble_eq_true rfl) (Nat.le_of_ble_eq_true rfl)
              · skip
                have c_94 : ((LL 0).length) = 0 := (nI_eq (a := ((LL 0).length)) (b := 0) (by omega) (by omega)).mp c_94
                refine lv_ldc (v := (-99999)) hx hb hown (hts (.constant RL 16 (-99999)) (by decide +kernel)) dL_isShownSo_97 ?_
                refine lv_goto (tgt := 104) hx hb dL_isShownSo_99 (by decide) ?_
                refine lv_icmp_ne (tgt := 127) hx hb dL_isShownSo_104 (by decide) (fun c_104 => ?_) (fun c_104 => ?_)
                · skip
                  first | exact absurd (m8 (by omega)) c_104 | exact absurd (m7 (by omega)) c_104
                · skip
                  refine lv_aload_n hx hb dL_isShownSo_107 rfl (lv_at hl 4 rfl) ?_
                  refine lv_iload_n hx hb dL_isShownSo_108 rfl (lv_at hl 5 rfl) ?_
                  refine gc_Si (va_runV (As := [.int (nI 0)]) (rest := []) ⟨hx, hb, hml, hown, hts⟩ (c_X3_unlike l D cy a q uw3 (gQ q r) (J3 0) (nI (LL3 0).length) (nI (Ms3 0).length) 0 fs3 (So3 0) (by decide) rfl hJ3) (cwV 1 hts gL_isShownSo_X3_unlike rfl rfl rfl (by decide +kernel) ⟨Nat.le_of_ble_eq_true rfl, Nat.le_of_ble_eq_true rfl⟩) (gpVR (ci := 3) (q0 := 0) hG (hP.sub [0, 5, 7, 1, 2, 8, 9] rfl) rfl rfl) rfl rfl hl.1 rfl (lv_room (Nat.le_of_ble_eq_true rfl)) dL_isShownSo_109 ⟨Nat.le_of_ble_eq_true rfl, Nat.le_of_ble_eq_true rfl⟩) ?_
                  refine g_ti (y := nI 0) (congrArg nI (sumD_0 12 (fun k hk => m9 k hk))) ?_
                  refine lv_if_ne (tgt := 127) hx hb dL_isShownSo_112 (by decide) (fun c_112 => ?_) (fun c_112 => ?_)
                  · skip
                    have c_112 : ¬ 0 = 0 := fun z => c_112 ((nI_eq (a := 0) (b := 0) (by omega) (by omega)).mpr z)
                    exact absurd c_112 (by decide)
                  · skip
                    have c_112 : 0 = 0 := (nI_eq (a := 0) (b := 0) (by omega) (by omega)).mp c_112
                    refine lv_aload_n hx hb dL_isShownSo_115 rfl (lv_at hl 4 rfl) ?_
                    refine lv_iload_n hx hb dL_isShownSo_116 rfl (lv_at hl 5 rfl) ?_
                    refine gc_Si (va_runV (As := [.int (nI 0)]) (rest := []) ⟨hx, hb, hml, hown, hts⟩ (c_X3_isAlike l D cy a q uw3 (gQ q r) (J3 0) (nI (LL3 0).length) (nI (Ms3 0).length) 0 (Co3 0) (fo3 0) (Cs3 0) (fc3 0) (by decide) rfl hJ3 (rCo2 0 (by decide)) (rCo 0 (by decide)) (rCs2 0 (by decide)) (rCs 0 (by decide))) (cwV 1 hts gL_isShownSo_X3_isAlike rfl rfl rfl (by decide +kernel) ⟨Nat.le_of_ble_eq_true rfl, Nat.le_of_ble_eq_true rfl⟩) (gpVR (ci := 3) (q0 := 0) hG (hP.sub [0, 5, 7, 10, 11, 12, 13] rfl) rfl rfl) rfl rfl hl.1 rfl (lv_room (Nat.le_of_ble_eq_true rfl)) dL_isShownSo_117 ⟨Nat.le_of_ble_eq_true rfl, Nat.le_of_ble_eq_true rfl⟩) ?_
                    refine lv_if_eq (tgt := 127) hx hb dL_isShownSo_120 (by decide) (fun c_120 => ?_) (fun c_120 => ?_)
                    · skip
                      have c_120 : ¬ ((Cs3 0) = (Co3 0)) := gb_eq0.mp c_120
                      exact absurd (m3.symm) c_120
                    · skip
                      have c_120 : (Cs3 0) = (Co3 0) := gb_ne0.mp c_120
                      refine lv_iconst (v := nI 1) hx hb dL_isShownSo_123 (by decide) ?_
                      refine lv_goto (tgt := 128) hx hb dL_isShownSo_124 (by decide) ?_
                      exact hret _ _ _ _ _ _ _ (((fs3), (uw3), (fw3), J3, LL3, So3, Co3, Cs3, Ms3), ((fb3), fd3, ft3, fo3, fc3, fm3)) dL_isShownSo_128 ⟨⟨rfl, (fs, uw, fw, J, LL, So, Co, Cs, Ms), (fs, uw + nI (300 - left2_37), fw2_37, J, upC 0 [] LL, So, Co, upC 0 C2_37 Cs, upC 0 M2_37 Ms), r_2, _, r_89, hw_2.1, k7, hw_89.1⟩, hX⟩ hP hD hS (Nat.le_of_ble_eq_true rfl) (Nat.le_of_ble_eq_true rfl)
            · skip
              have c_82 : ¬ (n + (300 - left2_37)) ≤ (n + (17 * ((LL 0).length))) := fun z => c_82 ((nI_leI (a := (n + (300 - left2_37))) (b := (n + (17 * ((LL 0).length)))) (by omega) (by omega)).mpr z)
              exact absurd (by omega) c_82
    · skip
      have c_15 : ¬ ((Cs 0) = (Co 0)) := gb_eq0.mp c_15
      exact absurd (i3.symm) c_15
