/-! the model: numbers, tiles, dirt -/
/-! the model: its rows of cells -/
abbrev cof (t k : Nat) : Nat := 16 * (4 * (t / 4) + k / 4) + 4 * (t % 4) + k % 4
def hV (arr : Nat → Int32) (val : Nat → Nat → Nat) : Prop := ∀ c r, c < 16 → r < 12 → arr (16 * r + c) = nI (val c r)
def hS (S : Nat → Int64) (arr : Nat → Int32) : Prop := hV arr (at2 S)
theorem cof_lt {t k : Nat} (ht : t < 12) (hk : k < 16) : cof t k < 192 := by show 16 * (4 * (t / 4) + k / 4) + 4 * (t % 4) + k % 4 < 192; omega
theorem hS_cof {S : Nat → Int64} {arr : Nat → Int32} (h : hS S arr) {t k : Nat} (ht : t < 12) (hk : k < 16) : arr (cof t k) = nI (cel (S t) k) := by
  have h1 := h (4 * (t % 4) + k % 4) (4 * (t / 4) + k / 4) (by omega) (by omega)
  have e1 : 16 * (4 * (t / 4) + k / 4) + (4 * (t % 4) + k % 4) = cof t k := by show _ = 16 * (4 * (t / 4) + k / 4) + 4 * (t % 4) + k % 4; omega
  have e2 : tl (4 * (t % 4) + k % 4) (4 * (t / 4) + k / 4) = t := by show 4 * ((4 * (t / 4) + k / 4) / 4) + (4 * (t % 4) + k % 4) / 4 = t; omega
  have e3 : plc (4 * (t % 4) + k % 4) (4 * (t / 4) + k / 4) = k := by show 4 * ((4 * (t / 4) + k / 4) % 4) + (4 * (t % 4) + k % 4) % 4 = k; omega
  rw [e1] at h1
  rw [h1]
  show nI (cel (S (tl _ _)) (plc _ _)) = _
  rw [e2, e3]
theorem hV_gD {S : Nat → Int64} {arr : Nat → Int32} {val : Nat → Nat → Nat} (h : hV arr val) (hd : gD S val) : hS S arr := fun c r hc hr => by rw [h c r hc hr, hd c r hc hr]
theorem hS_cong {S B : Nat → Int64} {arr brr : Nat → Int32} (h : hS S arr) (hB : ∀ k, k < 12 → B k = S k) (hb : ∀ k, k < 192 → brr k = arr k) : hS B brr := fun c r hc hr => by
  rw [hb _ (by omega), h c r hc hr, at2_cong hB hc hr]
/-- a row of a client's own in an array of both -/
def hNo (L : List Nat) (d : Nat → Int32) (c : Nat) : Prop := ∀ i, i < L.length → d (12 * c + i) = nI (L.getD i 0)
def hCo (C : List Int64) (f : Nat → Int32) (c : Nat) : Prop := ∀ p k, p < C.length → k < 16 → f (112 * c + 16 * p + k) = nI (cel (C.getD p 0) k)
def hSo (S : Nat → Int64) (f : Nat → Int32) (c : Nat) : Prop := ∀ x y, x < 16 → y < 12 → f (192 * c + (16 * y + x)) = nI (at2 S x y)
def hMo (M : List (Nat × Int64)) (se ce : Nat → Int32) (c : Nat) : Prop := ∀ j, j < M.length → se (12 * c + j) = nI (mT M j) ∧ ∀ k, k < 16 → ce (16 * (12 * c + j) + k) = nI (cel (mX M j) k)
def hT (x : Int64) (tl : Nat → Int32) : Prop := ∀ k, k < 16 → tl k = nI (cel x k)
/-- nothing but the client's own row has changed -/
def kO (n c : Nat) (f f2 : Nat → Int32) : Prop := ∀ j, (j < n * c ∨ n * c + n ≤ j) → f2 j = f j
theorem kO_rf (n c : Nat) (f : Nat → Int32) : kO n c f f := fun _ _ => rfl
theorem kO_tr {n c : Nat} {f g h : Nat → Int32} (h1 : kO n c f g) (h2 : kO n c g h) : kO n c f h := fun j hj => (h2 j hj).trans (h1 j hj)
theorem kO_up {n c i : Nat} {f g : Nat → Int32} {v : Int32} (h : kO n c f g) (hi : n * c ≤ i ∧ i < n * c + n) : kO n c f (upd g i v) := fun j hj => by
  rw [pk_un (by omega)]; exact h j hj
theorem kO_1 {c c' : Nat} {f g : Nat → Int32} (h : kO 1 c f g) (hc : c' ≠ c) : g c' = f c' := h c' (by omega)
theorem kO_N {c c' : Nat} {f g : Nat → Int32} {L : List Nat} (h : kO 12 c f g) (hL : hNo L f c') (hl : L.length ≤ 12) (hc : c' ≠ c) : hNo L g c' := fun i hi => by
  rw [h _ (by rcases Nat.lt_or_gt_of_ne hc with q | q <;> omega)]; exact hL i hi
theorem ex_succ {p : Nat → Prop} {i : Nat} : (∃ j, j < i + 1 ∧ p j) ↔ (∃ j, j < i ∧ p j) ∨ p i := by
  constructor
  · rintro ⟨j, h1, h2⟩
    by_cases e : j = i
    · exact Or.inr (e ▸ h2)
    · exact Or.inl ⟨j, by omega, h2⟩
  · rintro (⟨j, h1, h2⟩ | h)
    · exact ⟨j, by omega, h2⟩
    · exact ⟨i, by omega, h⟩
theorem hNo_app {L : List Nat} {d : Nat → Int32} {c t : Nat} (h : hNo L d c) : hNo (L ++ [t]) (upd d (12 * c + L.length) (nI t)) c := by
  intro i hi
  rw [List.length_append, List.length_singleton] at hi
  by_cases e : i = L.length
  · rw [e, pk_us, List.getD_eq_getElem?_getD, List.getElem?_append_right (Nat.le_refl _), Nat.sub_self]; rfl
  · rw [pk_un (by omega), h i (by omega), List.getD_eq_getElem?_getD, List.getD_eq_getElem?_getD, List.getElem?_append_left (by omega)]
theorem iX4_thrown_X4 : ∀ w ∈ wsX40, w ∈ wsX4_thrown := by decide +kernel
set_option maxHeartbeats 4000000 in
set_option maxRecDepth 100000 in
theorem c_X4_thrown (l : Launch) (D : va_G) (cy : Nat → ClassId) (q : Nat → Nat) (T U : Int32)  : Met l yX4_thrown wsX4_thrown ({ frames := 0, cells := 0, slots := 0, locals := 0 } : Room) (va_Pc [.ref (q 0)] (gR D (gT cy) [(q 0, eMod T q U)])) (vp_Si (fun r9 => r9 = T)) 0 0 (fun _ => False) := by
  refine gM_i (cc := cX4_thrown) (maxL := 1) (ty := .int) (by decide) rfl (Nat.le_of_ble_eq_true rfl) (fun v hv => by rw [hv]; first | rfl | exact gb_nar _) ?_
  intro pp ee ss mm bw mt cd QQ ls hfx hP hG hret hl
  obtain ⟨hx, hb, hml, hown, hts, hlocks⟩ := hfx
  have hown : ss.vm.findClass RX4 = some mm.cls := hown
  have hl : lv_has ls 1 [(0, .ref (q 0))] := hl
  refine lv_aload_n hx hb dX4_thrown_0 rfl (lv_at hl 0 rfl) ?_
  refine va_get (D := D) (ci := 4) (v := .int T) (C := RX4) (T := TX4) (N := 17) hx hb hts iX4_thrown_X4 hown hG.1 hP 0 rfl rfl 0 (by decide) (hts (.fieldLink RX4 56 "DirtyTilesModel" "thrown" "I") (by decide +kernel)) (fun _ h9 => h9) rfl dX4_thrown_1 ?_
  exact hret _ _ _ dX4_thrown_4 rfl
theorem iX4_units_X4 : ∀ w ∈ wsX40, w ∈ wsX4_units := by decide +kernel
set_option maxHeartbeats 4000000 in
set_option maxRecDepth 100000 in
theorem c_X4_units (l : Launch) (D : va_G) (cy : Nat → ClassId) (sz : Nat) (q : Nat → Nat) (T U : Int32)  : Met l yX4_units wsX4_units ({ frames := 0, cells := 0, slots := 0, locals := 0 } : Room) (va_Pc [.ref (q 0)] (gI D (gT cy) [(q 0, eMod T q U)] sz)) (va_Qi (fun (r9 : Int32) (u : Unit) => r9 = U ∧ ((True))) (gO D (fun u : Unit => [(q 0, eMod (nI 0) q U)]) (va_A [(q 0, eMod T q U)] sz)) (va_A [(q 0, eMod T q U)] sz)) 0 0 (va_A [(q 0, eMod T q U)] sz) := by
  refine gW_i (cc := cX4_units) (maxL := 1) (ty := .int) (by decide) rfl (Nat.le_of_ble_eq_true rfl) (fun v u hv => by rfl) ?_
  intro pp ee ss mm bw mt cd QQ AA ls hfx hP hG hD hA hret hl
  have hS : va_S AA ss.heap ss.heap [] := va_S.rf
  obtain ⟨H, eH⟩ : ∃ H, H = ss.heap := ⟨_, rfl⟩
  obtain ⟨locs, eL⟩ : ∃ L : List Loc, L = [] := ⟨_, rfl⟩
  have hP : va_P D vwCl [(q 0, eMod T q U)] H := by rw [eH]; exact hP
  have hS : va_S AA ss.heap H locs := by rw [eH, eL]; exact hS
  have goal : ∀ X Y, X = H → Y = locs → W pp l ee ({ frames := 0, cells := 0, slots := 0, locals := 0 } : Room) ss mm ([.ref (q 0)] : List Value).toArray bw mt cd X Y 0 0 QQ (F0 mm 0 ls []) → W pp l ee ({ frames := 0, cells := 0, slots := 0, locals := 0 } : Room) ss mm ([.ref (q 0)] : List Value).toArray bw mt cd ss.heap [] 0 0 QQ (F0 mm 0 ls []) := fun X Y hX hY h => by rw [hX, hY, eH, eL] at h; exact h
  refine goal H locs rfl rfl ?_
  clear goal eH eL
  obtain ⟨hx, hb, hml, hown, hts, hlocks⟩ := hfx
  have hown : ss.vm.findClass RX4 = some mm.cls := hown
  have hl : lv_has ls 1 [(0, .ref (q 0))] := hl
  refine lv_aload_n hx hb dX4_units_0 rfl (lv_at hl 0 rfl) ?_
  refine lv_iconst (v := nI 0) hx hb dX4_units_1 (by decide) ?_
  refine va_put (D := D) (ci := 4) (v := .int (nI 0)) (ty := .int) (C := RX4) (T := TX4) (N := 17) hx hb hts iX4_units_X4 tyX4 tyX4_ok nmX4 hown hG.1 hP hD hS 0 rfl rfl 0 (by decide) (hts (.fieldLink RX4 56 "DirtyTilesModel" "thrown" "I") (by decide +kernel)) (fun _ h9 => h9) rfl (by decide +kernel) rfl rfl (Nat.le_of_ble_eq_true rfl) dX4_units_2 (fun H locs hP hD hS => ?_)
  have hP : va_P D vwCl [(q 0, eMod (nI 0) q U)] H := hP
  have hD : va_D AA [(q 0, eMod (nI 0) q U)] := hD
  refine lv_aload_n hx hb dX4_units_5 rfl (lv_at hl 0 rfl) ?_
  refine va_get (D := D) (ci := 4) (v := .int U) (C := RX4) (T := TX4) (N := 17) hx hb hts iX4_units_X4 hown hG.1 hP 0 rfl rfl 15 (by decide) (hts (.fieldLink RX4 128 "DirtyTilesModel" "units" "I") (by decide +kernel)) (fun _ h9 => h9) rfl dX4_units_6 ?_
  exact hret _ _ _ _ _ () dX4_units_9 (⟨rfl, trivial⟩) (hP.sub [0] rfl) (hD.sub [0] (by decide) rfl) hS
theorem iX4_goesWell_X4 : ∀ w ∈ wsX40, w ∈ wsX4_goesWell := by decide +kernel
set_option maxHeartbeats 4000000 in
set_option maxRecDepth 100000 in
theorem c_X4_goesWell (l : Launch) (D : va_G) (cy : Nat → ClassId) (sz : Nat) (q : Nat → Nat) (T U : Int32) (k : Nat) (hk : k ≤ 3) : Met l yX4_goesWell wsX4_goesWell ({ frames := 0, cells := 0, slots := 0, locals := 0 } : Room) (va_Pc [.ref (q 0), .int (nI k)] (gI D (gT cy) [(q 0, eMod T q U)] sz)) (va_Qi (fun (r9 : Int32) (u : Unit) => r9 = gb (k = 0) ∧ ((True))) (gO D (fun u : Unit => [(q 0, eMod (nI k) q U)]) (va_A [(q 0, eMod T q U)] sz)) (va_A [(q 0, eMod T q U)] sz)) 0 0 (va_A [(q 0, eMod T q U)] sz) := by
  refine gW_i (cc := cX4_goesWell) (maxL := 2) (ty := .boolean) (by decide) rfl (Nat.le_of_ble_eq_true rfl) (fun v u hv => by rw [hv.1]; exact gb_nar _) ?_
  intro pp ee ss mm bw mt cd QQ AA ls hfx hP hG hD hA hret hl
  have hS : va_S AA ss.heap ss.heap [] := va_S.rf
  obtain ⟨H, eH⟩ : ∃ H, H = ss.heap := ⟨_, rfl⟩
  obtain ⟨locs, eL⟩ : ∃ L : List Loc, L = [] := ⟨_, rfl⟩
  have hP : va_P D vwCl [(q 0, eMod T q U)] H := by rw [eH]; exact hP
  have hS : va_S AA ss.heap H locs := by rw [eH, eL]; exact hS
  have goal : ∀ X Y, X = H → Y = locs → W pp l ee ({ frames := 0, cells := 0, slots := 0, locals := 0 } : Room) ss mm ([.ref (q 0), .int (nI k)] : List Value).toArray bw mt cd X Y 0 0 QQ (F0 mm 0 ls []) → W pp l ee ({ frames := 0, cells := 0, slots := 0, locals := 0 } : Room) ss mm ([.ref (q 0), .int (nI k)] : List Value).toArray bw mt cd ss.heap [] 0 0 QQ (F0 mm 0 ls []) := fun X Y hX hY h => by rw [hX, hY, eH, eL] at h; exact h
  refine goal H locs rfl rfl ?_
  clear goal eH eL
  obtain ⟨hx, hb, hml, hown, hts, hlocks⟩ := hfx
  have hown : ss.vm.findClass RX4 = some mm.cls := hown
  have hl : lv_has ls 2 [(0, .ref (q 0)), (1, .int (nI k))] := hl
  refine lv_aload_n hx hb dX4_goesWell_0 rfl (lv_at hl 0 rfl) ?_
  refine lv_iload_n hx hb dX4_goesWell_1 rfl (lv_at hl 1 rfl) ?_
  refine va_put (D := D) (ci := 4) (v := .int (nI k)) (ty := .int) (C := RX4) (T := TX4) (N := 17) hx hb hts iX4_goesWell_X4 tyX4 tyX4_ok nmX4 hown hG.1 hP hD hS 0 rfl rfl 0 (by decide) (hts (.fieldLink RX4 56 "DirtyTilesModel" "thrown" "I") (by decide +kernel)) (fun _ h9 => h9) rfl (by decide +kernel) rfl rfl (Nat.le_of_ble_eq_true rfl) dX4_goesWell_2 (fun H locs hP hD hS => ?_)
  have hP : va_P D vwCl [(q 0, eMod (nI k) q U)] H := hP
  have hD : va_D AA [(q 0, eMod (nI k) q U)] := hD
  refine lv_iload_n hx hb dX4_goesWell_5 rfl (lv_at hl 1 rfl) ?_
  refine lv_if_ne (tgt := 13) hx hb dX4_goesWell_6 (by decide) (fun c_6 => ?_) (fun c_6 => ?_)
  · skip
    have c_6 : ¬ k = 0 := fun z => c_6 ((nI_eq (a := k) (b := 0) (by omega) (by omega)).mpr z)
    refine lv_iconst (v := nI 0) hx hb dX4_goesWell_13 (by decide) ?_
    exact hret _ _ _ _ _ () dX4_goesWell_14 (⟨by first | exact (gb_t (by omega)).symm | exact (gb_f (by omega)).symm, trivial⟩) (hP.sub [0] rfl) (hD.sub [0] (by decide) rfl) hS
  · skip
    have c_6 : k = 0 := (nI_eq (a := k) (b := 0) (by omega) (by omega)).mp c_6
    refine lv_iconst (v := nI 1) hx hb dX4_goesWell_9 (by decide) ?_
    refine lv_goto (tgt := 14) hx hb dX4_goesWell_10 (by decide) ?_
    exact hret _ _ _ _ _ () dX4_goesWell_14 (⟨by first | exact (gb_t (by omega)).symm | exact (gb_f (by omega)).symm, trivial⟩) (hP.sub [0] rfl) (hD.sub [0] (by decide) rfl) hS
set_option maxHeartbeats 4000000 in
set_option maxRecDepth 100000 in
theorem c_X4_in (l : Launch) (D : va_G) (cy : Nat → ClassId) (v a b : Int32)  : Met l yX4_in wsX4_in ({ frames := 0, cells := 0, slots := 0, locals := 0 } : Room) (va_Pc [.int v, .int a, .int b] (gR D (gT cy) [])) (vp_Si (fun r9 => r9 = gb (pIn v a.toInt b.toInt))) 0 0 (fun _ => False) := by
  refine gM_i (cc := cX4_in) (maxL := 3) (ty := .boolean) (by decide) rfl (Nat.le_of_ble_eq_true rfl) (fun v hv => by rw [hv]; first | rfl | exact gb_nar _) ?_
  intro pp ee ss mm bw mt cd QQ ls hfx hP hG hret hl
  obtain ⟨hx, hb, hml, hown, hts, hlocks⟩ := hfx
  have hown : ss.vm.findClass RX4 = some mm.cls := hown
  have hl : lv_has ls 3 [(0, .int v), (1, .int a), (2, .int b)] := hl
  refine lv_iload_n hx hb dX4_in_0 rfl (lv_at hl 0 rfl) ?_
  refine lv_iload_n hx hb dX4_in_1 rfl (lv_at hl 1 rfl) ?_
  refine lv_icmp_lt (tgt := 14) hx hb dX4_in_2 (by decide) (fun c_2 => ?_) (fun c_2 => ?_)
  · skip
    refine lv_iconst (v := nI 0) hx hb dX4_in_14 (by decide) ?_
    exact hret _ _ _ dX4_in_15 (by (try simp only [fa_lt, fa_le] at c_2); (try simp only [fa_lt, fa_le] at c_7); first | exact (gb_t (by simp only [pIn]; omega)).symm | exact (gb_f (by simp only [pIn]; omega)).symm)
  · skip
    refine lv_iload_n hx hb dX4_in_5 rfl (lv_at hl 0 rfl) ?_
    refine lv_iload_n hx hb dX4_in_6 rfl (lv_at hl 2 rfl) ?_
    refine lv_icmp_gt (tgt := 14) hx hb dX4_in_7 (by decide) (fun c_7 => ?_) (fun c_7 => ?_)
    · skip
      refine lv_iconst (v := nI 0) hx hb dX4_in_14 (by decide) ?_
      exact hret _ _ _ dX4_in_15 (by (try simp only [fa_lt, fa_le] at c_2); (try simp only [fa_lt, fa_le] at c_7); first | exact (gb_t (by simp only [pIn]; omega)).symm | exact (gb_f (by simp only [pIn]; omega)).symm)
    · skip
      refine lv_iconst (v := nI 1) hx hb dX4_in_10 (by decide) ?_
      refine lv_goto (tgt := 15) hx hb dX4_in_11 (by decide) ?_
      exact hret _ _ _ dX4_in_15 (by (try simp only [fa_lt, fa_le] at c_2); (try simp only [fa_lt, fa_le] at c_7); first | exact (gb_t (by simp only [pIn]; omega)).symm | exact (gb_f (by simp only [pIn]; omega)).symm)
set_option maxHeartbeats 4000000 in
set_option maxRecDepth 100000 in
theorem c_X4_isClient (l : Launch) (D : va_G) (cy : Nat → ClassId) (c : Int32)  : Met l yX4_isClient wsX4_isClient ({ frames := 1, cells := 0, slots := 0, locals := 22 } : Room) (va_Pc [.int c] (gR D (gT cy) [])) (vp_Si (fun r9 => r9 = gb (pIn c 0 1))) 0 0 (fun _ => False) := by
  refine gM_i (cc := cX4_isClient) (maxL := 1) (ty := .boolean) (by decide) rfl (Nat.le_of_ble_eq_true rfl) (fun v hv => by rw [hv]; first | rfl | exact gb_nar _) ?_
  intro pp ee ss mm bw mt cd QQ ls hfx hP hG hret hl
  obtain ⟨hx, hb, hml, hown, hts, hlocks⟩ := hfx
  have hown : ss.vm.findClass RX4 = some mm.cls := hown
  have hl : lv_has ls 1 [(0, .int c)] := hl
  refine lv_iload_n hx hb dX4_isClient_0 rfl (lv_at hl 0 rfl) ?_
  refine lv_iconst (v := nI 0) hx hb dX4_isClient_1 (by decide) ?_
  refine lv_iconst (v := nI 1) hx hb dX4_isClient_2 (by decide) ?_
  refine gc_Si (va_runS (As := [.int c, .int (nI 0), .int (nI 1)]) (rest := []) ⟨hx, hb, hml, hown, hts⟩ (c_X4_in l D cy c (nI 0) (nI 1)) (va_cwS 3 hts gX4_isClient_X4_in rfl rfl rfl (by decide +kernel) ⟨Nat.le_of_ble_eq_true rfl, Nat.le_of_ble_eq_true rfl⟩) (gpSR hG (hP.sub [] rfl)) rfl rfl hl.1 rfl (lv_room (Nat.le_of_ble_eq_true rfl)) dX4_isClient_3 ⟨Nat.zero_le _, Nat.zero_le _⟩) ?_
  refine g_ti (y := gb (pIn c 0 1)) ((congrArg (fun z => gb (pIn c z (nI 1 : Int32).toInt)) (by decide : (nI 0 : Int32).toInt = 0)).trans (congrArg (fun z => gb (pIn c 0 z)) (by decide : (nI 1 : Int32).toInt = 1))) ?_
  exact hret _ _ _ dX4_isClient_6 rfl
set_option maxHeartbeats 4000000 in
set_option maxRecDepth 100000 in
theorem c_X4_isTile (l : Launch) (D : va_G) (cy : Nat → ClassId) (c : Int32)  : Met l yX4_isTile wsX4_isTile ({ frames := 1, cells := 0, slots := 0, locals := 22 } : Room) (va_Pc [.int c] (gR D (gT cy) [])) (vp_Si (fun r9 => r9 = gb (pIn c 0 11))) 0 0 (fun _ => False) := by
  refine gM_i (cc := cX4_isTile) (maxL := 1) (ty := .boolean) (by decide) rfl (Nat.le_of_ble_eq_true rfl) (fun v hv => by rw [hv]; first | rfl | exact gb_nar _) ?_
  intro pp ee ss mm bw mt cd QQ ls hfx hP hG hret hl
  obtain ⟨hx, hb, hml, hown, hts, hlocks⟩ := hfx
  have hown : ss.vm.findClass RX4 = some mm.cls := hown
  have hl : lv_has ls 1 [(0, .int c)] := hl
  refine lv_iload_n hx hb dX4_isTile_0 rfl (lv_at hl 0 rfl) ?_
  refine lv_iconst (v := nI 0) hx hb dX4_isTile_1 (by decide) ?_
  refine lv_bipush (v := nI 11) hx hb dX4_isTile_2 (by decide) ?_
  refine gc_Si (va_runS (As := [.int c, .int (nI 0), .int (nI 11)]) (rest := []) ⟨hx, hb, hml, hown, hts⟩ (c_X4_in l D cy c (nI 0) (nI 11)) (va_cwS 3 hts gX4_isTile_X4_in rfl rfl rfl (by decide +kernel) ⟨Nat.le_of_ble_eq_true rfl, Nat.le_of_ble_eq_true rfl⟩) (gpSR hG (hP.sub [] rfl)) rfl rfl hl.1 rfl (lv_room (Nat.le_of_ble_eq_true rfl)) dX4_isTile_4 ⟨Nat.zero_le _, Nat.zero_le _⟩) ?_
  refine g_ti (y := gb (pIn c 0 11)) ((congrArg (fun z => gb (pIn c z (nI 11 : Int32).toInt)) (by decide : (nI 0 : Int32).toInt = 0)).trans (congrArg (fun z => gb (pIn c 0 z)) (by decide : (nI 11 : Int32).toInt = 11))) ?_
  exact hret _ _ _ dX4_isTile_7 rfl
set_option maxHeartbeats 4000000 in
set_option maxRecDepth 100000 in
theorem c_X4_isCell (l : Launch) (D : va_G) (cy : Nat → ClassId) (c r : Int32)  : Met l yX4_isCell wsX4_isCell ({ frames := 1, cells := 0, slots := 0, locals := 22 } : Room) (va_Pc [.int c, .int r] (gR D (gT cy) [])) (vp_Si (fun r9 => r9 = gb (pCell c r))) 0 0 (fun _ => False) := by
  refine gM_i (cc := cX4_isCell) (maxL := 2) (ty := .boolean) (by decide) rfl (Nat.le_of_ble_eq_true rfl) (fun v hv => by rw [hv]; first | rfl | exact gb_nar _) ?_
  intro pp ee ss mm bw mt cd QQ ls hfx hP hG hret hl
  obtain ⟨hx, hb, hml, hown, hts, hlocks⟩ := hfx
  have hown : ss.vm.findClass RX4 = some mm.cls := hown
  have hl : lv_has ls 2 [(0, .int c), (1, .int r)] := hl
  refine lv_iload_n hx hb dX4_isCell_0 rfl (lv_at hl 0 rfl) ?_
  refine lv_iconst (v := nI 0) hx hb dX4_isCell_1 (by decide) ?_
  refine lv_bipush (v := nI 15) hx hb dX4_isCell_2 (by decide) ?_
  refine gc_Si (va_runS (As := [.int c, .int (nI 0), .int (nI 15)]) (rest := []) ⟨hx, hb, hml, hown, hts⟩ (c_X4_in l D cy c (nI 0) (nI 15)) (va_cwS 3 hts gX4_isCell_X4_in rfl rfl rfl (by decide +kernel) ⟨Nat.le_of_ble_eq_true rfl, Nat.le_of_ble_eq_true rfl⟩) (gpSR hG (hP.sub [] rfl)) rfl rfl hl.1 rfl (lv_room (Nat.le_of_ble_eq_true rfl)) dX4_isCell_4 ⟨Nat.zero_le _, Nat.zero_le _⟩) ?_
  refine g_ti (y := gb (pIn c 0 15)) ((congrArg (fun z => gb (pIn c z (nI 15 : Int32).toInt)) (by decide : (nI 0 : Int32).toInt = 0)).trans (congrArg (fun z => gb (pIn c 0 z)) (by decide : (nI 15 : Int32).toInt = 15))) ?_
  refine lv_if_eq (tgt := 24) hx hb dX4_isCell_7 (by decide) (fun c_7 => ?_) (fun c_7 => ?_)
  · skip
    have c_7 : ¬ (pIn c 0 15) := gb_eq0.mp c_7
    refine lv_iconst (v := nI 0) hx hb dX4_isCell_24 (by decide) ?_
    exact hret _ _ _ dX4_isCell_25 (by first | exact (gb_t ⟨c_7, c_17⟩).symm | exact (gb_f (fun h => c_7 h.1)).symm | exact (gb_f (fun h => c_17 h.2)).symm)
  · skip
    have c_7 : pIn c 0 15 := gb_ne0.mp c_7
    refine lv_iload_n hx hb dX4_isCell_10 rfl (lv_at hl 1 rfl) ?_
    refine lv_iconst (v := nI 0) hx hb dX4_isCell_11 (by decide) ?_
    refine lv_bipush (v := nI 11) hx hb dX4_isCell_12 (by decide) ?_
    refine gc_Si (va_runS (As := [.int r, .int (nI 0), .int (nI 11)]) (rest := []) ⟨hx, hb, hml, hown, hts⟩ (c_X4_in l D cy r (nI 0) (nI 11)) (va_cwS 3 hts gX4_isCell_X4_in rfl rfl rfl (by decide +kernel) ⟨Nat.le_of_ble_eq_true rfl, Nat.le_of_ble_eq_true rfl⟩) (gpSR hG (hP.sub [] rfl)) rfl rfl hl.1 rfl (lv_room (Nat.le_of_ble_eq_true rfl)) dX4_isCell_14 ⟨Nat.zero_le _, Nat.zero_le _⟩) ?_
    refine g_ti (y := gb (pIn r 0 11)) ((congrArg (fun z => gb (pIn r z (nI 11 : Int32).toInt)) (by decide : (nI 0 : Int32).toInt = 0)).trans (congrArg (fun z => gb (pIn r 0 z)) (by decide : (nI 11 : Int32).toInt = 11))) ?_
    refine lv_if_eq (tgt := 24) hx hb dX4_isCell_17 (by decide) (fun c_17 => ?_) (fun c_17 => ?_)
    · skip
      have c_17 : ¬ (pIn r 0 11) := gb_eq0.mp c_17
      refine lv_iconst (v := nI 0) hx hb dX4_isCell_24 (by decide) ?_
      exact hret _ _ _ dX4_isCell_25 (by first | exact (gb_t ⟨c_7, c_17⟩).symm | exact (gb_f (fun h => c_7 h.1)).symm | exact (gb_f (fun h => c_17 h.2)).symm)
    · skip
      have c_17 : pIn r 0 11 := gb_ne0.mp c_17
      refine lv_iconst (v := nI 1) hx hb dX4_isCell_20 (by decide) ?_
      refine lv_goto (tgt := 25) hx hb dX4_isCell_21 (by decide) ?_
      exact hret _ _ _ dX4_isCell_25 (by first | exact (gb_t ⟨c_7, c_17⟩).symm | exact (gb_f (fun h => c_7 h.1)).symm | exact (gb_f (fun h => c_17 h.2)).symm)
set_option maxHeartbeats 4000000 in
set_option maxRecDepth 100000 in
theorem c_X4_isBox (l : Launch) (D : va_G) (cy : Nat → ClassId) (c r w h : Int32)  : Met l yX4_isBox wsX4_isBox ({ frames := 2, cells := 0, slots := 0, locals := 43 } : Room) (va_Pc [.int c, .int r, .int w, .int h] (gR D (gT cy) [])) (vp_Si (fun r9 => r9 = gb (pBox c r w h))) 0 0 (fun _ => False) := by
  refine gM_i (cc := cX4_isBox) (maxL := 4) (ty := .boolean) (by decide) rfl (Nat.le_of_ble_eq_true rfl) (fun v hv => by rw [hv]; first | rfl | exact gb_nar _) ?_
  intro pp ee ss mm bw mt cd QQ ls hfx hP hG hret hl
  obtain ⟨hx, hb, hml, hown, hts, hlocks⟩ := hfx
  have hown : ss.vm.findClass RX4 = some mm.cls := hown
  have hl : lv_has ls 4 [(0, .int c), (1, .int r), (2, .int w), (3, .int h)] := hl
  refine lv_iload_n hx hb dX4_isBox_0 rfl (lv_at hl 0 rfl) ?_
  refine lv_iload_n hx hb dX4_isBox_1 rfl (lv_at hl 1 rfl) ?_
  refine gc_Si (va_runS (As := [.int c, .int r]) (rest := []) ⟨hx, hb, hml, hown, hts⟩ (c_X4_isCell l D cy c r) (va_cwS 2 hts gX4_isBox_X4_isCell rfl rfl rfl (by decide +kernel) ⟨Nat.le_of_ble_eq_true rfl, Nat.le_of_ble_eq_true rfl⟩) (gpSR hG (hP.sub [] rfl)) rfl rfl hl.1 rfl (lv_room (Nat.le_of_ble_eq_true rfl)) dX4_isBox_2 ⟨Nat.zero_le _, Nat.zero_le _⟩) ?_
  refine lv_if_eq (tgt := 36) hx hb dX4_isBox_5 (by decide) (fun c_5 => ?_) (fun c_5 => ?_)
  · skip
    have c_5 : ¬ (pCell c r) := gb_eq0.mp c_5
    refine lv_iconst (v := nI 0) hx hb dX4_isBox_36 (by decide) ?_
    exact hret _ _ _ dX4_isBox_37 (by first | exact (gb_t ⟨c_5, c_17, c_29⟩).symm | exact (gb_f (fun h => c_5 h.1)).symm | exact (gb_f (fun h => c_17 h.2.1)).symm | exact (gb_f (fun h => c_29 h.2.2)).symm)
  · skip
    have c_5 : pCell c r := gb_ne0.mp c_5
    refine lv_iload_n hx hb dX4_isBox_8 rfl (lv_at hl 2 rfl) ?_
    refine lv_iconst (v := nI 1) hx hb dX4_isBox_9 (by decide) ?_
    refine lv_bipush (v := nI 16) hx hb dX4_isBox_10 (by decide) ?_
    refine lv_iload_n hx hb dX4_isBox_12 rfl (lv_at hl 0 rfl) ?_
    refine lv_isub hx hb dX4_isBox_13 ?_
    refine gc_Si (va_runS (As := [.int w, .int (nI 1), .int ((nI 16) - c)]) (rest := []) ⟨hx, hb, hml, hown, hts⟩ (c_X4_in l D cy w (nI 1) (nI 16 - c)) (va_cwS 3 hts gX4_isBox_X4_in rfl rfl rfl (by decide +kernel) ⟨Nat.le_of_ble_eq_true rfl, Nat.le_of_ble_eq_true rfl⟩) (gpSR hG (hP.sub [] rfl)) rfl rfl hl.1 rfl (lv_room (Nat.le_of_ble_eq_true rfl)) dX4_isBox_14 ⟨Nat.zero_le _, Nat.zero_le _⟩) ?_
    refine g_ti (y := gb (pIn w 1 (16 - c.toInt))) (by rw [g_subI (by decide) c_5.1.1]; rfl) ?_
    refine lv_if_eq (tgt := 36) hx hb dX4_isBox_17 (by decide) (fun c_17 => ?_) (fun c_17 => ?_)
    · skip
      have c_17 : ¬ (pIn w 1 (16 - c.toInt)) := gb_eq0.mp c_17
      refine lv_iconst (v := nI 0) hx hb dX4_isBox_36 (by decide) ?_
      exact hret _ _ _ dX4_isBox_37 (by first | exact (gb_t ⟨c_5, c_17, c_29⟩).symm | exact (gb_f (fun h => c_5 h.1)).symm | exact (gb_f (fun h => c_17 h.2.1)).symm | exact (gb_f (fun h => c_29 h.2.2)).symm)
    · skip
      have c_17 : pIn w 1 (16 - c.toInt) := gb_ne0.mp c_17
      refine lv_iload_n hx hb dX4_isBox_20 rfl (lv_at hl 3 rfl) ?_
      refine lv_iconst (v := nI 1) hx hb dX4_isBox_21 (by decide) ?_
      refine lv_bipush (v := nI 12) hx hb dX4_isBox_22 (by decide) ?_
      refine lv_iload_n hx hb dX4_isBox_24 rfl (lv_at hl 1 rfl) ?_
      refine lv_isub hx hb dX4_isBox_25 ?_
      refine gc_Si (va_runS (As := [.int h, .int (nI 1), .int ((nI 12) - r)]) (rest := []) ⟨hx, hb, hml, hown, hts⟩ (c_X4_in l D cy h (nI 1) (nI 12 - r)) (va_cwS 3 hts gX4_isBox_X4_in rfl rfl rfl (by decide +kernel) ⟨Nat.le_of_ble_eq_true rfl, Nat.le_of_ble_eq_true rfl⟩) (gpSR hG (hP.sub [] rfl)) rfl rfl hl.1 rfl (lv_room (Nat.le_of_ble_eq_true rfl)) dX4_isBox_26 ⟨Nat.zero_le _, Nat.zero_le _⟩) ?_
      refine g_ti (y := gb (pIn h 1 (12 - r.toInt))) (by rw [g_subI (by decide) c_5.2.1]; rfl) ?_
      refine lv_if_eq (tgt := 36) hx hb dX4_isBox_29 (by decide) (fun c_29 => ?_) (fun c_29 => ?_)
      · skip
        have c_29 : ¬ (pIn h 1 (12 - r.toInt)) := gb_eq0.mp c_29
        refine lv_iconst (v := nI 0) hx hb dX4_isBox_36 (by decide) ?_
        exact hret _ _ _ dX4_isBox_37 (by first | exact (gb_t ⟨c_5, c_17, c_29⟩).symm | exact (gb_f (fun h => c_5 h.1)).symm | exact (gb_f (fun h => c_17 h.2.1)).symm | exact (gb_f (fun h => c_29 h.2.2)).symm)
      · skip
        have c_29 : pIn h 1 (12 - r.toInt) := gb_ne0.mp c_29
        refine lv_iconst (v := nI 1) hx hb dX4_isBox_32 (by decide) ?_
        refine lv_goto (tgt := 37) hx hb dX4_isBox_33 (by decide) ?_
        exact hret _ _ _ dX4_isBox_37 (by first | exact (gb_t ⟨c_5, c_17, c_29⟩).symm | exact (gb_f (fun h => c_5 h.1)).symm | exact (gb_f (fun h => c_17 h.2.1)).symm | exact (gb_f (fun h => c_29 h.2.2)).symm)
set_option maxHeartbeats 4000000 in
set_option maxRecDepth 100000 in
theorem c_X4_cellOf (l : Launch) (D : va_G) (cy : Nat → ClassId) (t k : Nat) (ht9 : t < 12) (hk : k < 16) : Met l yX4_cellOf wsX4_cellOf ({ frames := 0, cells := 0, slots := 0, locals := 0 } : Room) (va_Pc [.int (nI t), .int (nI k)] (gR D (gT cy) [])) (vp_Si (fun r9 => r9 = nI (cof t k))) 0 0 (fun _ => False) := by
  refine gM_i (cc := cX4_cellOf) (maxL := 2) (ty := .int) (by decide) rfl (Nat.le_of_ble_eq_true rfl) (fun v hv => by rw [hv]; first | rfl | exact gb_nar _) ?_
  intro pp ee ss mm bw mt cd QQ ls hfx hP hG hret hl
  obtain ⟨hx, hb, hml, hown, hts, hlocks⟩ := hfx
  have hown : ss.vm.findClass RX4 = some mm.cls := hown
  have hl : lv_has ls 2 [(0, .int (nI t)), (1, .int (nI k))] := hl
  refine lv_bipush (v := nI 16) hx hb dX4_cellOf_0 (by decide) ?_
  refine lv_iconst (v := nI 4) hx hb dX4_cellOf_2 (by decide) ?_
  refine lv_iload_n hx hb dX4_cellOf_3 rfl (lv_at hl 0 rfl) ?_
  refine lv_iconst (v := nI 4) hx hb dX4_cellOf_4 (by decide) ?_
  refine lv_idiv hx hb dX4_cellOf_5 (nI_ne0 (by omega) (by omega)) ?_
  refine g_ti (y := nI (t / 4)) (pk_div (by omega) (by omega) (by omega)) ?_
  refine lv_imul hx hb dX4_cellOf_6 ?_
  refine g_ti (y := nI (4 * (t / 4))) (pk_mul _ _) ?_
  refine lv_iload_n hx hb dX4_cellOf_7 rfl (lv_at hl 1 rfl) ?_
  refine lv_iconst (v := nI 4) hx hb dX4_cellOf_8 (by decide) ?_
  refine lv_idiv hx hb dX4_cellOf_9 (nI_ne0 (by omega) (by omega)) ?_
  refine g_ti (y := nI (k / 4)) (pk_div (by omega) (by omega) (by omega)) ?_
  refine lv_iadd hx hb dX4_cellOf_10 ?_
  refine g_ti (y := nI ((4 * (t / 4)) + (k / 4))) (nI_add _ _) ?_
  refine lv_imul hx hb dX4_cellOf_11 ?_
  refine g_ti (y := nI (16 * ((4 * (t / 4)) + (k / 4)))) (pk_mul _ _) ?_
  refine lv_iconst (v := nI 4) hx hb dX4_cellOf_12 (by decide) ?_
  refine lv_iload_n hx hb dX4_cellOf_13 rfl (lv_at hl 0 rfl) ?_
  refine lv_iconst (v := nI 4) hx hb dX4_cellOf_14 (by decide) ?_
  refine lv_irem hx hb dX4_cellOf_15 (nI_ne0 (by omega) (by omega)) ?_
  refine g_ti (y := nI (t % 4)) (pk_rem (by omega) (by omega) (by omega)) ?_
  refine lv_imul hx hb dX4_cellOf_16 ?_
  refine g_ti (y := nI (4 * (t % 4))) (pk_mul _ _) ?_
  refine lv_iadd hx hb dX4_cellOf_17 ?_
  refine g_ti (y := nI ((16 * ((4 * (t / 4)) + (k / 4))) + (4 * (t % 4)))) (nI_add _ _) ?_
  refine lv_iload_n hx hb dX4_cellOf_18 rfl (lv_at hl 1 rfl) ?_
  refine lv_iconst (v := nI 4) hx hb dX4_cellOf_19 (by decide) ?_
  refine lv_irem hx hb dX4_cellOf_20 (nI_ne0 (by omega) (by omega)) ?_
  refine g_ti (y := nI (k % 4)) (pk_rem (by omega) (by omega) (by omega)) ?_
  refine lv_iadd hx hb dX4_cellOf_21 ?_
  refine g_ti (y := nI (((16 * ((4 * (t / 4)) + (k / 4))) + (4 * (t % 4))) + (k % 4))) (nI_add _ _) ?_
  exact hret _ _ _ dX4_cellOf_22 rfl
theorem iX4_keep_X4 : ∀ w ∈ wsX40, w ∈ wsX4_keep := by decide +kernel
set_option maxHeartbeats 4000000 in
set_option maxRecDepth 100000 in
theorem c_X4_keep (l : Launch) (D : va_G) (cy : Nat → ClassId) (sz : Nat) (q : Nat → Nat) (T U : Int32) (sc bf : Nat → Int32)  : Met l yX4_keep wsX4_keep ({ frames := 0, cells := 0, slots := 0, locals := 0 } : Room) (va_Pc [.ref (q 0)] (gI D (gT cy) [(q 0, eMod T q U), (q 1, eI cy 192 sc), (q 2, eI cy 192 bf)] sz)) (va_Qv (fun u : (Nat → Int32) => (∀ k, k < 192 → u k = sc k)) (gO D (fun u : (Nat → Int32) => [(q 0, eMod T q U), (q 1, eI cy 192 sc), (q 2, eI cy 192 u)]) (va_A [(q 0, eMod T q U), (q 1, eI cy 192 sc), (q 2, eI cy 192 bf)] sz)) (va_A [(q 0, eMod T q U), (q 1, eI cy 192 sc), (q 2, eI cy 192 bf)] sz)) 0 0 (va_A [(q 0, eMod T q U), (q 1, eI cy 192 sc), (q 2, eI cy 192 bf)] sz) := by
  refine gW_v (cc := cX4_keep) (maxL := 2) (by decide) rfl (Nat.le_of_ble_eq_true rfl) ?_
  intro pp ee ss mm bw mt cd QQ AA ls hfx hP hG hD hA hret hl
  have hS : va_S AA ss.heap ss.heap [] := va_S.rf
  obtain ⟨H, eH⟩ : ∃ H, H = ss.heap := ⟨_, rfl⟩
  obtain ⟨locs, eL⟩ : ∃ L : List Loc, L = [] := ⟨_, rfl⟩
  have hP : va_P D vwCl [(q 0, eMod T q U), (q 1, eI cy 192 sc), (q 2, eI cy 192 bf)] H := by rw [eH]; exact hP
  have hS : va_S AA ss.heap H locs := by rw [eH, eL]; exact hS
  have goal : ∀ X Y, X = H → Y = locs → W pp l ee ({ frames := 0, cells := 0, slots := 0, locals := 0 } : Room) ss mm ([.ref (q 0)] : List Value).toArray bw mt cd X Y 0 0 QQ (F0 mm 0 ls []) → W pp l ee ({ frames := 0, cells := 0, slots := 0, locals := 0 } : Room) ss mm ([.ref (q 0)] : List Value).toArray bw mt cd ss.heap [] 0 0 QQ (F0 mm 0 ls []) := fun X Y hX hY h => by rw [hX, hY, eH, eL] at h; exact h
  refine goal H locs rfl rfl ?_
  clear goal eH eL
  obtain ⟨hx, hb, hml, hown, hts, hlocks⟩ := hfx
  have hown : ss.vm.findClass RX4 = some mm.cls := hown
  have hl : lv_has ls 2 [(0, .ref (q 0))] := hl
  refine lv_iconst (v := nI 0) hx hb dX4_keep_0 (by decide) ?_
  refine lv_istore_n (lv' := [(1, .int (nI 0)), (0, .ref (q 0))]) hx hb dX4_keep_1 rfl hl (by decide) rfl (fun ls hl => ?_)
  have loop_2 : ∀ (n9 : Nat) (i : Nat) (b : Nat → Int32), 192 - i < n9 → (i ≤ 192) → (∀ k, k < i → b k = sc k) → ∀ (H : Heap) (locs : List Loc) (ls : Array Slot), va_P D vwCl [(q 0, eMod T q U), (q 1, eI cy 192 sc), (q 2, eI cy 192 b)] H → va_D AA [(q 0, eMod T q U), (q 1, eI cy 192 sc), (q 2, eI cy 192 b)] → va_S AA ss.heap H locs → lv_has ls 2 [(0, .ref (q 0)), (1, .int (nI i))] → W pp l ee ({ frames := 0, cells := 0, slots := 0, locals := 0 } : Room) ss mm ([.ref (q 0)] : List Value).toArray bw mt cd H locs 0 0 QQ (F0 mm 2 ls []) := by
    intro n9
    induction n9 with
    | zero => intro i b h9; exact absurd h9 (Nat.not_lt_zero _)
    | succ n9 ih_2 =>
      intro i b hm_2 hi hb9 H locs ls hP hD hS hl
      refine lv_iload_n hx hb dX4_keep_2 rfl (lv_at hl 1 rfl) ?_
      refine lv_sipush (v := nI 192) hx hb dX4_keep_3 (by decide) ?_
      refine lv_icmp_ge (tgt := 27) hx hb dX4_keep_6 (by decide) (fun c_6 => ?_) (fun c_6 => ?_)
      · skip
        have c_6 : 192 ≤ i := (nI_leI (a := 192) (b := i) (by omega) (by omega)).mp c_6
        exact hret _ _ _ _ b dX4_keep_27 (fun k hk => hb9 k (by omega)) (hP.sub [0, 1, 2] rfl) (hD.sub [0, 1, 2] (by decide) rfl) hS
      · skip
        have c_6 : ¬ 192 ≤ i := fun z => c_6 ((nI_leI (a := 192) (b := i) (by omega) (by omega)).mpr z)
        refine lv_aload_n hx hb dX4_keep_9 rfl (lv_at hl 0 rfl) ?_
        refine va_get (D := D) (ci := 4) (v := .ref (q 2)) (C := RX4) (T := TX4) (N := 17) hx hb hts iX4_keep_X4 hown hG.1 hP 0 rfl rfl 2 (by decide) (hts (.fieldLink RX4 13 "DirtyTilesModel" "before" "[I") (by decide +kernel)) (fun _ h9 => h9) rfl dX4_keep_10 ?_
        refine lv_iload_n hx hb dX4_keep_13 rfl (lv_at hl 1 rfl) ?_
        refine lv_aload_n hx hb dX4_keep_14 rfl (lv_at hl 0 rfl) ?_
        refine va_get (D := D) (ci := 4) (v := .ref (q 1)) (C := RX4) (T := TX4) (N := 17) hx hb hts iX4_keep_X4 hown hG.1 hP 0 rfl rfl 1 (by decide) (hts (.fieldLink RX4 7 "DirtyTilesModel" "screen" "[I") (by decide +kernel)) (fun _ h9 => h9) rfl dX4_keep_15 ?_
        refine lv_iload_n hx hb dX4_keep_18 rfl (lv_at hl 1 rfl) ?_
        refine g_iald hx hb hG hP 1 0 rfl rfl (k := i) (by omega) (by decide) dX4_keep_19 ?_
        refine g_iast hx hb hG hP hD hS 2 0 rfl rfl (k := i) (by omega) (by decide) dX4_keep_20 (fun H locs hP hD hS => ?_)
        have hP : va_P D vwCl [(q 0, eMod T q U), (q 1, eI cy 192 sc), (q 2, eI cy 192 (upd b i (sc i)))] H := hP
        have hD : va_D AA [(q 0, eMod T q U), (q 1, eI cy 192 sc), (q 2, eI cy 192 (upd b i (sc i)))] := hD
        refine lv_iinc (v := nI (i + 1)) (lv' := [(1, .int (nI (i + 1))), (0, .ref (q 0))]) hx hb dX4_keep_21 hl (k := 1) rfl (nI_1 _) (by decide) rfl (fun ls hl => ?_)
        refine lv_goto (tgt := 2) hx hb dX4_keep_24 (by decide) ?_
        exact ih_2 (i + 1) (upd b i (sc i)) (by omega) (by omega) (g_covI hb9 rfl) _ _ _ (hP.sub [0, 1, 2] rfl) (hD.sub [0, 1, 2] (by decide) rfl) hS (lv_sub hl [1, 0] rfl)
  exact loop_2 ((192 - 0) + 1) 0 bf (Nat.lt_succ_self _) (by omega) (fun k hk => absurd hk (Nat.not_lt_zero k)) _ _ _ (hP.sub [0, 1, 2] rfl) (hD.sub [0, 1, 2] (by decide) rfl) hS (lv_sub hl [1, 0] rfl)
def bet (b w u : Nat) : Nat := if u < b % 100 then 100 * w + u else b
set_option maxHeartbeats 4000000 in
set_option maxRecDepth 100000 in
theorem c_X4_better (l : Launch) (D : va_G) (cy : Nat → ClassId) (b w u : Nat) (hb9 : b < 1000) (hw : w < 10) (hu : u < 100) : Met l yX4_better wsX4_better ({ frames := 0, cells := 0, slots := 0, locals := 0 } : Room) (va_Pc [.int (nI b), .int (nI w), .int (nI u)] (gR D (gT cy) [])) (vp_Si (fun r9 => r9 = nI (bet b w u))) 0 0 (fun _ => False) := by
  refine gM_i (cc := cX4_better) (maxL := 3) (ty := .int) (by decide) rfl (Nat.le_of_ble_eq_true rfl) (fun v hv => by rw [hv]; first | rfl | exact gb_nar _) ?_
  intro pp ee ss mm bw mt cd QQ ls hfx hP hG hret hl
  obtain ⟨hx, hb, hml, hown, hts, hlocks⟩ := hfx
  have hown : ss.vm.findClass RX4 = some mm.cls := hown
  have hl : lv_has ls 3 [(0, .int (nI b)), (1, .int (nI w)), (2, .int (nI u))] := hl
  refine lv_iload_n hx hb dX4_better_0 rfl (lv_at hl 2 rfl) ?_
  refine lv_iload_n hx hb dX4_better_1 rfl (lv_at hl 0 rfl) ?_
  refine lv_bipush (v := nI 100) hx hb dX4_better_2 (by decide) ?_
  refine lv_irem hx hb dX4_better_4 (nI_ne0 (by omega) (by omega)) ?_
  refine g_ti (y := nI (b % 100)) (pk_rem (by omega) (by omega) (by omega)) ?_
  refine lv_icmp_ge (tgt := 17) hx hb dX4_better_5 (by decide) (fun c_5 => ?_) (fun c_5 => ?_)
  · skip
    have c_5 : (b % 100) ≤ u := (nI_leI (a := (b % 100)) (b := u) (by omega) (by omega)).mp c_5
    refine lv_iload_n hx hb dX4_better_17 rfl (lv_at hl 0 rfl) ?_
    exact hret _ _ _ dX4_better_18 (by first | exact lt_ret (if_pos (by omega)).symm | exact lt_ret (if_neg (by omega)).symm)
  · skip
    have c_5 : ¬ (b % 100) ≤ u := fun z => c_5 ((nI_leI (a := (b % 100)) (b := u) (by omega) (by omega)).mpr z)
    refine lv_bipush (v := nI 100) hx hb dX4_better_8 (by decide) ?_
    refine lv_iload_n hx hb dX4_better_10 rfl (lv_at hl 1 rfl) ?_
    refine lv_imul hx hb dX4_better_11 ?_
    refine g_ti (y := nI (100 * w)) (pk_mul _ _) ?_
    refine lv_iload_n hx hb dX4_better_12 rfl (lv_at hl 2 rfl) ?_
    refine lv_iadd hx hb dX4_better_13 ?_
    refine g_ti (y := nI ((100 * w) + u)) (nI_add _ _) ?_
    refine lv_goto (tgt := 18) hx hb dX4_better_14 (by decide) ?_
    exact hret _ _ _ dX4_better_18 (by first | exact lt_ret (if_pos (by omega)).symm | exact lt_ret (if_neg (by omega)).symm)
theorem iX4_look_X4 : ∀ w ∈ wsX40, w ∈ wsX4_look := by decide +kernel
set_option maxHeartbeats 4000000 in
set_option maxRecDepth 100000 in
theorem c_X4_look (l : Launch) (D : va_G) (cy : Nat → ClassId) (sz : Nat) (q : Nat → Nat) (T U : Int32) (sc tl9 : Nat → Int32) (S : Nat → Int64) (t : Nat) (ht9 : t < 12) (hs : hS S sc) : Met l yX4_look wsX4_look ({ frames := 1, cells := 0, slots := 0, locals := 21 } : Room) (va_Pc [.ref (q 0), .int (nI t)] (gI D (gT cy) [(q 0, eMod T q U), (q 1, eI cy 192 sc), (q 16, eI cy 16 tl9)] sz)) (va_Qv (fun u : (Nat → Int32) => (hT (S t) u)) (gO D (fun u : (Nat → Int32) => [(q 0, eMod T q U), (q 1, eI cy 192 sc), (q 16, eI cy 16 u)]) (va_A [(q 0, eMod T q U), (q 1, eI cy 192 sc), (q 16, eI cy 16 tl9)] sz)) (va_A [(q 0, eMod T q U), (q 1, eI cy 192 sc), (q 16, eI cy 16 tl9)] sz)) 0 0 (va_A [(q 0, eMod T q U), (q 1, eI cy 192 sc), (q 16, eI cy 16 tl9)] sz) := by
  refine gW_v (cc := cX4_look) (maxL := 3) (by decide) rfl (Nat.le_of_ble_eq_true rfl) ?_
  intro pp ee ss mm bw mt cd QQ AA ls hfx hP hG hD hA hret hl
  have hS : va_S AA ss.heap ss.heap [] := va_S.rf
  obtain ⟨H, eH⟩ : ∃ H, H = ss.heap := ⟨_, rfl⟩
  obtain ⟨locs, eL⟩ : ∃ L : List Loc, L = [] := ⟨_, rfl⟩
  have hP : va_P D vwCl [(q 0, eMod T q U), (q 1, eI cy 192 sc), (q 16, eI cy 16 tl9)] H := by rw [eH]; exact hP
  have hS : va_S AA ss.heap H locs := by rw [eH, eL]; exact hS
  have goal : ∀ X Y, X = H → Y = locs → W pp l ee ({ frames := 1, cells := 0, slots := 0, locals := 21 } : Room) ss mm ([.ref (q 0), .int (nI t)] : List Value).toArray bw mt cd X Y 0 0 QQ (F0 mm 0 ls []) → W pp l ee ({ frames := 1, cells := 0, slots := 0, locals := 21 } : Room) ss mm ([.ref (q 0), .int (nI t)] : List Value).toArray bw mt cd ss.heap [] 0 0 QQ (F0 mm 0 ls []) := fun X Y hX hY h => by rw [hX, hY, eH, eL] at h; exact h
  refine goal H locs rfl rfl ?_
  clear goal eH eL
  obtain ⟨hx, hb, hml, hown, hts, hlocks⟩ := hfx
  have hown : ss.vm.findClass RX4 = some mm.cls := hown
  have hl : lv_has ls 3 [(0, .ref (q 0)), (1, .int (nI t))] := hl
  refine lv_iconst (v := nI 0) hx hb dX4_look_0 (by decide) ?_
  refine lv_istore_n (lv' := [(2, .int (nI 0)), (0, .ref (q 0)), (1, .int (nI t))]) hx hb dX4_look_1 rfl hl (by decide) rfl (fun ls hl => ?_)
  have loop_2 : ∀ (n9 : Nat) (i : Nat) (b : Nat → Int32), 16 - i < n9 → (i ≤ 16) → (∀ k, k < i → b k = nI (cel (S t) k)) → ∀ (H : Heap) (locs : List Loc) (ls : Array Slot), va_P D vwCl [(q 0, eMod T q U), (q 1, eI cy 192 sc), (q 16, eI cy 16 b)] H → va_D AA [(q 0, eMod T q U), (q 1, eI cy 192 sc), (q 16, eI cy 16 b)] → va_S AA ss.heap H locs → lv_has ls 3 [(0, .ref (q 0)), (1, .int (nI t)), (2, .int (nI i))] → W pp l ee ({ frames := 1, cells := 0, slots := 0, locals := 21 } : Room) ss mm ([.ref (q 0), .int (nI t)] : List Value).toArray bw mt cd H locs 0 0 QQ (F0 mm 2 ls []) := by
    intro n9
    induction n9 with
    | zero => intro i b h9; exact absurd h9 (Nat.not_lt_zero _)
    | succ n9 ih_2 =>
      intro i b hm_2 hi hb9 H locs ls hP hD hS hl
      refine lv_iload_n hx hb dX4_look_2 rfl (lv_at hl 2 rfl) ?_
      refine lv_bipush (v := nI 16) hx hb dX4_look_3 (by decide) ?_
      refine lv_icmp_ge (tgt := 30) hx hb dX4_look_5 (by decide) (fun c_5 => ?_) (fun c_5 => ?_)
      · skip
        have c_5 : 16 ≤ i := (nI_leI (a := 16) (b := i) (by omega) (by omega)).mp c_5
        exact hret _ _ _ _ b dX4_look_30 (fun k hk => hb9 k (by omega)) (hP.sub [0, 1, 2] rfl) (hD.sub [0, 1, 2] (by decide) rfl) hS
      · skip
        have c_5 : ¬ 16 ≤ i := fun z => c_5 ((nI_leI (a := 16) (b := i) (by omega) (by omega)).mpr z)
        refine lv_aload_n hx hb dX4_look_8 rfl (lv_at hl 0 rfl) ?_
        refine va_get (D := D) (ci := 4) (v := .ref (q 16)) (C := RX4) (T := TX4) (N := 17) hx hb hts iX4_look_X4 hown hG.1 hP 0 rfl rfl 16 (by decide) (hts (.fieldLink RX4 53 "DirtyTilesModel" "tile" "[I") (by decide +kernel)) (fun _ h9 => h9) rfl dX4_look_9 ?_
        refine lv_iload_n hx hb dX4_look_12 rfl (lv_at hl 2 rfl) ?_
        refine lv_aload_n hx hb dX4_look_13 rfl (lv_at hl 0 rfl) ?_
        refine va_get (D := D) (ci := 4) (v := .ref (q 1)) (C := RX4) (T := TX4) (N := 17) hx hb hts iX4_look_X4 hown hG.1 hP 0 rfl rfl 1 (by decide) (hts (.fieldLink RX4 7 "DirtyTilesModel" "screen" "[I") (by decide +kernel)) (fun _ h9 => h9) rfl dX4_look_14 ?_
        refine lv_iload_n hx hb dX4_look_17 rfl (lv_at hl 1 rfl) ?_
        refine lv_iload_n hx hb dX4_look_18 rfl (lv_at hl 2 rfl) ?_
        refine gc_Si (va_runS (As := [.int (nI t), .int (nI i)]) (rest := [.ref (q 1), .int (nI i), .ref (q 16)]) ⟨hx, hb, hml, hown, hts⟩ (c_X4_cellOf l D cy t i ht9 (by omega)) (va_cwS 2 hts gX4_look_X4_cellOf rfl rfl rfl (by decide +kernel) ⟨Nat.le_of_ble_eq_true rfl, Nat.le_of_ble_eq_true rfl⟩) (gpSR hG (hP.sub [] rfl)) rfl rfl hl.1 rfl (lv_room (Nat.le_of_ble_eq_true rfl)) dX4_look_19 ⟨Nat.zero_le _, Nat.zero_le _⟩) ?_
        refine g_iald hx hb hG hP 1 0 rfl rfl (k := cof t i) (cof_lt ht9 (by omega)) (by decide) dX4_look_22 ?_
        refine g_ti (y := nI (cel (S t) i)) (hS_cof hs ht9 (by omega)) ?_
        refine g_iast hx hb hG hP hD hS 2 0 rfl rfl (k := i) (by omega) (by decide) dX4_look_23 (fun H locs hP hD hS => ?_)
        have hP : va_P D vwCl [(q 0, eMod T q U), (q 1, eI cy 192 sc), (q 16, eI cy 16 (upd b i (nI (cel (S t) i))))] H := hP
        have hD : va_D AA [(q 0, eMod T q U), (q 1, eI cy 192 sc), (q 16, eI cy 16 (upd b i (nI (cel (S t) i))))] := hD
        refine lv_iinc (v := nI (i + 1)) (lv' := [(2, .int (nI (i + 1))), (0, .ref (q 0)), (1, .int (nI t))]) hx hb dX4_look_24 hl (k := 2) rfl (nI_1 _) (by decide) rfl (fun ls hl => ?_)
        refine lv_goto (tgt := 2) hx hb dX4_look_27 (by decide) ?_
        exact ih_2 (i + 1) (upd b i (nI (cel (S t) i))) (by omega) (by omega) (g_covI hb9 rfl) _ _ _ (hP.sub [0, 1, 2] rfl) (hD.sub [0, 1, 2] (by decide) rfl) hS (lv_sub hl [1, 2, 0] rfl)
  exact loop_2 ((16 - 0) + 1) 0 tl9 (Nat.lt_succ_self _) (by omega) (fun k hk => absurd hk (Nat.not_lt_zero k)) _ _ _ (hP.sub [0, 1, 2] rfl) (hD.sub [0, 1, 2] (by decide) rfl) hS (lv_sub hl [1, 2, 0] rfl)
theorem g_shr {n c : Nat} (hn : n < 65536) (hc : c < 16) : nI n >>> (nI c &&& 31) = nI (n / 2 ^ c) := by
  refine pk_shrN (by omega) _ c ?_
  exact s_l c (by omega)
theorem iX4_countColours_X4 : ∀ w ∈ wsX40, w ∈ wsX4_countColours := by decide +kernel
set_option maxHeartbeats 4000000 in
set_option maxRecDepth 100000 in
theorem c_X4_countColours (l : Launch) (D : va_G) (cy : Nat → ClassId) (q : Nat → Nat) (T U : Int32) (tl9 : Nat → Int32) (x : Int64) (hx9 : hT x tl9) : Met l yX4_countColours wsX4_countColours ({ frames := 0, cells := 0, slots := 0, locals := 0 } : Room) (va_Pc [.ref (q 0)] (gR D (gT cy) [(q 0, eMod T q U), (q 16, eI cy 16 tl9)])) (vp_Si (fun r9 => r9 = nI (nCol x))) 0 0 (fun _ => False) := by
  refine gM_i (cc := cX4_countColours) (maxL := 4) (ty := .int) (by decide) rfl (Nat.le_of_ble_eq_true rfl) (fun v hv => by rw [hv]; first | rfl | exact gb_nar _) ?_
  intro pp ee ss mm bw mt cd QQ ls hfx hP hG hret hl
  obtain ⟨hx, hb, hml, hown, hts, hlocks⟩ := hfx
  have hown : ss.vm.findClass RX4 = some mm.cls := hown
  have hl : lv_has ls 4 [(0, .ref (q 0))] := hl
  refine lv_iconst (v := nI 0) hx hb dX4_countColours_0 (by decide) ?_
  refine lv_istore_n (lv' := [(1, .int (nI 0)), (0, .ref (q 0))]) hx hb dX4_countColours_1 rfl hl (by decide) rfl (fun ls hl => ?_)
  refine lv_iconst (v := nI 0) hx hb dX4_countColours_2 (by decide) ?_
  refine lv_istore_n (lv' := [(2, .int (nI 0)), (1, .int (nI 0)), (0, .ref (q 0))]) hx hb dX4_countColours_3 rfl hl (by decide) rfl (fun ls hl => ?_)
  refine lv_iconst (v := nI 0) hx hb dX4_countColours_4 (by decide) ?_
  refine lv_istore_n (lv' := [(3, .int (nI 0)), (2, .int (nI 0)), (1, .int (nI 0)), (0, .ref (q 0))]) hx hb dX4_countColours_5 rfl hl (by decide) rfl (fun ls hl => ?_)
  have loop_6 : ∀ (n9 : Nat) (i w : Nat), 16 - i < n9 → (i ≤ 16) → (w = popN (metN x i)) → ∀ (ls : Array Slot), lv_has ls 4 [(0, .ref (q 0)), (1, .int (nI (metN x i))), (2, .int (nI w)), (3, .int (nI i))] → W pp l ee ({ frames := 0, cells := 0, slots := 0, locals := 0 } : Room) ss mm ([.ref (q 0)] : List Value).toArray bw mt cd ss.heap [] 0 0 QQ (F0 mm 6 ls []) := by
    intro n9
    induction n9 with
    | zero => intro i w h9; exact absurd h9 (Nat.not_lt_zero _)
    | succ n9 ih_6 =>
      intro i w hm_6 hi hw ls hl
      have z1 := metN_lt x i
      have z2 := cel_lt x i
      refine lv_iload_n hx hb dX4_countColours_6 rfl (lv_at hl 3 rfl) ?_
      refine lv_bipush (v := nI 16) hx hb dX4_countColours_7 (by decide) ?_
      refine lv_icmp_ge (tgt := 50) hx hb dX4_countColours_9 (by decide) (fun c_9 => ?_) (fun c_9 => ?_)
      · skip
        have c_9 : 16 ≤ i := (nI_leI (a := 16) (b := i) (by omega) (by omega)).mp c_9
        refine lv_iload_n hx hb dX4_countColours_50 rfl (lv_at hl 2 rfl) ?_
        exact hret _ _ _ dX4_countColours_51 (by have e9 : i = 16 := (by omega); rw [hw, e9]; rfl)
      · skip
        have c_9 : ¬ 16 ≤ i := fun z => c_9 ((nI_leI (a := 16) (b := i) (by omega) (by omega)).mpr z)
        refine lv_iload_n hx hb dX4_countColours_12 rfl (lv_at hl 2 rfl) ?_
        refine lv_iload_n hx hb dX4_countColours_13 rfl (lv_at hl 1 rfl) ?_
        refine lv_aload_n hx hb dX4_countColours_14 rfl (lv_at hl 0 rfl) ?_
        refine va_get (D := D) (ci := 4) (v := .ref (q 16)) (C := RX4) (T := TX4) (N := 17) hx hb hts iX4_countColours_X4 hown hG.1 hP 0 rfl rfl 16 (by decide) (hts (.fieldLink RX4 53 "DirtyTilesModel" "tile" "[I") (by decide +kernel)) (fun _ h9 => h9) rfl dX4_countColours_15 ?_
        refine lv_iload_n hx hb dX4_countColours_18 rfl (lv_at hl 3 rfl) ?_
        refine g_iald hx hb hG hP 1 0 rfl rfl (k := i) (by omega) (by decide) dX4_countColours_19 ?_
        refine g_ti (y := nI (cel x i)) (hx9 i (by omega)) ?_
        refine lv_ishr hx hb dX4_countColours_20 ?_
        refine g_ti (y := nI (metN x i / 2 ^ cel x i)) (g_shr z1 z2) ?_
        refine lv_iconst (v := nI 1) hx hb dX4_countColours_21 (by decide) ?_
        refine lv_iand hx hb dX4_countColours_22 ?_
        refine g_ti (y := nI (metN x i / 2 ^ cel x i % 2)) (pk_andN (by have := Nat.div_le_self (metN x i) (2 ^ cel x i); omega) 1 (by decide)) ?_
        refine lv_if_ne (tgt := 30) hx hb dX4_countColours_23 (by decide) (fun c_23 => ?_) (fun c_23 => ?_)
        · skip
          have c_23 : ¬ (metN x i / 2 ^ cel x i % 2) = 0 := fun z => c_23 ((nI_eq (a := (metN x i / 2 ^ cel x i % 2)) (b := 0) (by omega) (by omega)).mpr z)
          have b9 : (metN x i).testBit (cel x i) = true := by rw [Nat.testBit_eq_decide_div_mod_eq, decide_eq_true_eq]; omega
          refine lv_iconst (v := nI 0) hx hb dX4_countColours_30 (by decide) ?_
          refine lv_iadd hx hb dX4_countColours_31 ?_
          refine g_ti (y := nI (w + 0)) (nI_add _ _) ?_
          refine lv_istore_n (lv' := [(2, .int (nI (w + 0))), (0, .ref (q 0)), (1, .int (nI (metN x i))), (3, .int (nI i))]) hx hb dX4_countColours_32 rfl hl (by decide) rfl (fun ls hl => ?_)
          refine lv_iload_n hx hb dX4_countColours_33 rfl (lv_at hl 2 rfl) ?_
          refine lv_iconst (v := nI 1) hx hb dX4_countColours_34 (by decide) ?_
          refine lv_aload_n hx hb dX4_countColours_35 rfl (lv_at hl 1 rfl) ?_
          refine va_get (D := D) (ci := 4) (v := .ref (q 16)) (C := RX4) (T := TX4) (N := 17) hx hb hts iX4_countColours_X4 hown hG.1 hP 0 rfl rfl 16 (by decide) (hts (.fieldLink RX4 53 "DirtyTilesModel" "tile" "[I") (by decide +kernel)) (fun _ h9 => h9) rfl dX4_countColours_36 ?_
          refine lv_iload_n hx hb dX4_countColours_39 rfl (lv_at hl 3 rfl) ?_
          refine g_iald hx hb hG hP 1 0 rfl rfl (k := i) (by omega) (by decide) dX4_countColours_40 ?_
          refine g_ti (y := nI (cel x i)) (hx9 i (by omega)) ?_
          refine lv_ishl hx hb dX4_countColours_41 ?_
          refine g_ti (y := nI (2 ^ cel x i)) (g_shl1 _ z2) ?_
          refine lv_ior hx hb dX4_countColours_42 ?_
          refine g_ti (y := nI (metN x (i + 1))) (fa_or _ _) ?_
          refine lv_istore_n (lv' := [(1, .int (nI (metN x (i + 1)))), (2, .int (nI (w + 0))), (0, .ref (q 0)), (3, .int (nI i))]) hx hb dX4_countColours_43 rfl hl (by decide) rfl (fun ls hl => ?_)
          refine lv_iinc (v := nI (i + 1)) (lv' := [(3, .int (nI (i + 1))), (1, .int (nI (metN x (i + 1)))), (2, .int (nI (w + 0))), (0, .ref (q 0))]) hx hb dX4_countColours_44 hl (k := 3) rfl (nI_1 _) (by decide) rfl (fun ls hl => ?_)
          refine lv_goto (tgt := 6) hx hb dX4_countColours_47 (by decide) ?_
          exact ih_6 (i + 1) (w + 0) (by omega) (by omega) (by show _ = popN (metN x i ||| 2 ^ cel x i); rw [popN_or z2, hw]; first | (rw [if_pos (by assumption)]; done) | (rw [if_neg (by assumption)]; done)) _ (lv_sub hl [3, 1, 2, 0] rfl)
        · skip
          have c_23 : (metN x i / 2 ^ cel x i % 2) = 0 := (nI_eq (a := (metN x i / 2 ^ cel x i % 2)) (b := 0) (by omega) (by omega)).mp c_23
          have b9 : ¬ (metN x i).testBit (cel x i) = true := by rw [Nat.testBit_eq_decide_div_mod_eq, decide_eq_true_eq]; omega
          refine lv_iconst (v := nI 1) hx hb dX4_countColours_26 (by decide) ?_
          refine lv_goto (tgt := 31) hx hb dX4_countColours_27 (by decide) ?_
          refine lv_iadd hx hb dX4_countColours_31 ?_
          refine g_ti (y := nI (w + 1)) (nI_add _ _) ?_
          refine lv_istore_n (lv' := [(2, .int (nI (w + 1))), (0, .ref (q 0)), (1, .int (nI (metN x i))), (3, .int (nI i))]) hx hb dX4_countColours_32 rfl hl (by decide) rfl (fun ls hl => ?_)
          refine lv_iload_n hx hb dX4_countColours_33 rfl (lv_at hl 2 rfl) ?_
          refine lv_iconst (v := nI 1) hx hb dX4_countColours_34 (by decide) ?_
          refine lv_aload_n hx hb dX4_countColours_35 rfl (lv_at hl 1 rfl) ?_
          refine va_get (D := D) (ci := 4) (v := .ref (q 16)) (C := RX4) (T := TX4) (N := 17) hx hb hts iX4_countColours_X4 hown hG.1 hP 0 rfl rfl 16 (by decide) (hts (.fieldLink RX4 53 "DirtyTilesModel" "tile" "[I") (by decide +kernel)) (fun _ h9 => h9) rfl dX4_countColours_36 ?_
          refine lv_iload_n hx hb dX4_countColours_39 rfl (lv_at hl 3 rfl) ?_
          refine g_iald hx hb hG hP 1 0 rfl rfl (k := i) (by omega) (by decide) dX4_countColours_40 ?_
          refine g_ti (y := nI (cel x i)) (hx9 i (by omega)) ?_
          refine lv_ishl hx hb dX4_countColours_41 ?_
          refine g_ti (y := nI (2 ^ cel x i)) (g_shl1 _ z2) ?_
          refine lv_ior hx hb dX4_countColours_42 ?_
          refine g_ti (y := nI (metN x (i + 1))) (fa_or _ _) ?_
          refine lv_istore_n (lv' := [(1, .int (nI (metN x (i + 1)))), (2, .int (nI (w + 1))), (0, .ref (q 0)), (3, .int (nI i))]) hx hb dX4_countColours_43 rfl hl (by decide) rfl (fun ls hl => ?_)
          refine lv_iinc (v := nI (i + 1)) (lv' := [(3, .int (nI (i + 1))), (1, .int (nI (metN x (i + 1)))), (2, .int (nI (w + 1))), (0, .ref (q 0))]) hx hb dX4_countColours_44 hl (k := 3) rfl (nI_1 _) (by decide) rfl (fun ls hl => ?_)
          refine lv_goto (tgt := 6) hx hb dX4_countColours_47 (by decide) ?_
          exact ih_6 (i + 1) (w + 1) (by omega) (by omega) (by show _ = popN (metN x i ||| 2 ^ cel x i); rw [popN_or z2, hw]; first | (rw [if_pos (by assumption)]; done) | (rw [if_neg (by assumption)]; done)) _ (lv_sub hl [3, 1, 2, 0] rfl)
  exact loop_6 ((16 - 0) + 1) 0 0 (Nat.lt_succ_self _) (by omega) (by show 0 = popN 0; decide) _ (lv_sub hl [3, 2, 1, 0] rfl)
theorem iX4_countRuns_X4 : ∀ w ∈ wsX40, w ∈ wsX4_countRuns := by decide +kernel
set_option maxHeartbeats 4000000 in
set_option maxRecDepth 100000 in
theorem c_X4_countRuns (l : Launch) (D : va_G) (cy : Nat → ClassId) (q : Nat → Nat) (T U : Int32) (tl9 : Nat → Int32) (x : Int64) (hx9 : hT x tl9) : Met l yX4_countRuns wsX4_countRuns ({ frames := 0, cells := 0, slots := 0, locals := 0 } : Room) (va_Pc [.ref (q 0)] (gR D (gT cy) [(q 0, eMod T q U), (q 16, eI cy 16 tl9)])) (vp_Si (fun r9 => r9 = nI (nRun x))) 0 0 (fun _ => False) := by
  refine gM_i (cc := cX4_countRuns) (maxL := 3) (ty := .int) (by decide) rfl (Nat.le_of_ble_eq_true rfl) (fun v hv => by rw [hv]; first | rfl | exact gb_nar _) ?_
  intro pp ee ss mm bw mt cd QQ ls hfx hP hG hret hl
  obtain ⟨hx, hb, hml, hown, hts, hlocks⟩ := hfx
  have hown : ss.vm.findClass RX4 = some mm.cls := hown
  have hl : lv_has ls 3 [(0, .ref (q 0))] := hl
  refine lv_iconst (v := nI 1) hx hb dX4_countRuns_0 (by decide) ?_
  refine lv_istore_n (lv' := [(1, .int (nI 1)), (0, .ref (q 0))]) hx hb dX4_countRuns_1 rfl hl (by decide) rfl (fun ls hl => ?_)
  refine lv_iconst (v := nI 1) hx hb dX4_countRuns_2 (by decide) ?_
  refine lv_istore_n (lv' := [(2, .int (nI 1)), (1, .int (nI 1)), (0, .ref (q 0))]) hx hb dX4_countRuns_3 rfl hl (by decide) rfl (fun ls hl => ?_)
  have loop_4 : ∀ (n9 : Nat) (j k : Nat), 15 - j < n9 → (j ≤ 15) → (k = runF x j) → ∀ (ls : Array Slot), lv_has ls 3 [(0, .ref (q 0)), (1, .int (nI k)), (2, .int (nI (j + 1)))] → W pp l ee ({ frames := 0, cells := 0, slots := 0, locals := 0 } : Room) ss mm ([.ref (q 0)] : List Value).toArray bw mt cd ss.heap [] 0 0 QQ (F0 mm 4 ls []) := by
    intro n9
    induction n9 with
    | zero => intro j k h9; exact absurd h9 (Nat.not_lt_zero _)
    | succ n9 ih_4 =>
      intro j k hm_4 hi hk ls hl
      refine lv_iload_n hx hb dX4_countRuns_4 rfl (lv_at hl 2 rfl) ?_
      refine lv_bipush (v := nI 16) hx hb dX4_countRuns_5 (by decide) ?_
      refine lv_icmp_ge (tgt := 41) hx hb dX4_countRuns_7 (by decide) (fun c_7 => ?_) (fun c_7 => ?_)
      · skip
        have c_7 : 16 ≤ (j + 1) := (nI_leI (a := 16) (b := (j + 1)) (by omega) (by omega)).mp c_7
        refine lv_iload_n hx hb dX4_countRuns_41 rfl (lv_at hl 1 rfl) ?_
        exact hret _ _ _ dX4_countRuns_42 (by have e9 : j = 15 := (by omega); rw [hk, e9]; rfl)
      · skip
        have c_7 : ¬ 16 ≤ (j + 1) := fun z => c_7 ((nI_leI (a := 16) (b := (j + 1)) (by omega) (by omega)).mpr z)
        refine lv_iload_n hx hb dX4_countRuns_10 rfl (lv_at hl 1 rfl) ?_
        refine lv_aload_n hx hb dX4_countRuns_11 rfl (lv_at hl 0 rfl) ?_
        refine va_get (D := D) (ci := 4) (v := .ref (q 16)) (C := RX4) (T := TX4) (N := 17) hx hb hts iX4_countRuns_X4 hown hG.1 hP 0 rfl rfl 16 (by decide) (hts (.fieldLink RX4 53 "DirtyTilesModel" "tile" "[I") (by decide +kernel)) (fun _ h9 => h9) rfl dX4_countRuns_12 ?_
        refine lv_iload_n hx hb dX4_countRuns_15 rfl (lv_at hl 2 rfl) ?_
        refine g_iald hx hb hG hP 1 0 rfl rfl (k := j + 1) (by omega) (by decide) dX4_countRuns_16 ?_
        refine g_ti (y := nI (cel x (j + 1))) (hx9 _ (by omega)) ?_
        refine lv_aload_n hx hb dX4_countRuns_17 rfl (lv_at hl 0 rfl) ?_
        refine va_get (D := D) (ci := 4) (v := .ref (q 16)) (C := RX4) (T := TX4) (N := 17) hx hb hts iX4_countRuns_X4 hown hG.1 hP 0 rfl rfl 16 (by decide) (hts (.fieldLink RX4 53 "DirtyTilesModel" "tile" "[I") (by decide +kernel)) (fun _ h9 => h9) rfl dX4_countRuns_18 ?_
        refine lv_iload_n hx hb dX4_countRuns_21 rfl (lv_at hl 2 rfl) ?_
        refine lv_iconst (v := nI 1) hx hb dX4_countRuns_22 (by decide) ?_
        refine lv_isub hx hb dX4_countRuns_23 ?_
        refine g_ti (y := nI j) (pk_sub (by omega)) ?_
        refine g_iald hx hb hG hP 1 0 rfl rfl (k := j) (by omega) (by decide) dX4_countRuns_24 ?_
        refine g_ti (y := nI (cel x j)) (hx9 _ (by omega)) ?_
        refine lv_icmp_ne (tgt := 32) hx hb dX4_countRuns_25 (by decide) (fun c_25 => ?_) (fun c_25 => ?_)
        · skip
          have c_25 : ¬ (cel x (j + 1)) = (cel x j) := fun z => c_25 ((nI_eq (a := (cel x (j + 1))) (b := (cel x j)) (Nat.lt_trans (cel_lt _ _) (by decide)) (Nat.lt_trans (cel_lt _ _) (by decide))).mpr z)
          refine lv_iconst (v := nI 1) hx hb dX4_countRuns_32 (by decide) ?_
          refine lv_iadd hx hb dX4_countRuns_33 ?_
          refine g_ti (y := nI (k + 1)) (nI_add _ _) ?_
          refine lv_istore_n (lv' := [(1, .int (nI (k + 1))), (0, .ref (q 0)), (2, .int (nI (j + 1)))]) hx hb dX4_countRuns_34 rfl hl (by decide) rfl (fun ls hl => ?_)
          refine lv_iinc (v := nI (j + 1 + 1)) (lv' := [(2, .int (nI (j + 1 + 1))), (1, .int (nI (k + 1))), (0, .ref (q 0))]) hx hb dX4_countRuns_35 hl (k := 2) rfl (nI_1 _) (by decide) rfl (fun ls hl => ?_)
          refine lv_goto (tgt := 4) hx hb dX4_countRuns_38 (by decide) ?_
          exact ih_4 (j + 1) (k + 1) (by omega) (by omega) (by unfold runF; first | (rw [if_neg c_25, hk]; done) | (rw [if_pos c_25, hk]; done)) _ (lv_sub hl [2, 1, 0] rfl)
        · skip
          have c_25 : (cel x (j + 1)) = (cel x j) := (nI_eq (a := (cel x (j + 1))) (b := (cel x j)) (Nat.lt_trans (cel_lt _ _) (by decide)) (Nat.lt_trans (cel_lt _ _) (by decide))).mp c_25
          refine lv_iconst (v := nI 0) hx hb dX4_countRuns_28 (by decide) ?_
          refine lv_goto (tgt := 33) hx hb dX4_countRuns_29 (by decide) ?_
          refine lv_iadd hx hb dX4_countRuns_33 ?_
          refine g_ti (y := nI (k + 0)) (nI_add _ _) ?_
          refine lv_istore_n (lv' := [(1, .int (nI (k + 0))), (0, .ref (q 0)), (2, .int (nI (j + 1)))]) hx hb dX4_countRuns_34 rfl hl (by decide) rfl (fun ls hl => ?_)
          refine lv_iinc (v := nI (j + 1 + 1)) (lv' := [(2, .int (nI (j + 1 + 1))), (1, .int (nI (k + 0))), (0, .ref (q 0))]) hx hb dX4_countRuns_35 hl (k := 2) rfl (nI_1 _) (by decide) rfl (fun ls hl => ?_)
          refine lv_goto (tgt := 4) hx hb dX4_countRuns_38 (by decide) ?_
          exact ih_4 (j + 1) (k + 0) (by omega) (by omega) (by unfold runF; first | (rw [if_neg c_25, hk]; done) | (rw [if_pos c_25, hk]; done)) _ (lv_sub hl [2, 1, 0] rfl)
  exact loop_4 ((15 - 0) + 1) 0 1 (Nat.lt_succ_self _) (by omega) rfl _ (lv_sub hl [2, 1, 0] rfl)
theorem iX4_soil_X4 : ∀ w ∈ wsX40, w ∈ wsX4_soil := by decide +kernel
set_option maxHeartbeats 4000000 in
set_option maxRecDepth 100000 in
theorem c_X4_soil (l : Launch) (D : va_G) (cy : Nat → ClassId) (sz : Nat) (q : Nat → Nat) (T U : Int32) (d mn : Nat → Int32) (L : List Nat) (c t : Nat) (hc : c < 2) (ht9 : t < 12) (hd : hNo L d c) (hm9 : mn c = nI L.length) (ho : okD L) : Met l yX4_soil wsX4_soil ({ frames := 0, cells := 0, slots := 0, locals := 0 } : Room) (va_Pc [.ref (q 0), .int (nI c), .int (nI t)] (gI D (gT cy) [(q 0, eMod T q U), (q 9, eI cy 24 d), (q 10, eI cy 2 mn)] sz)) (va_Qv (fun u : (Nat → Int32) × (Nat → Int32) => (hNo (soil L t) u.1 c ∧ u.2 c = nI (soil L t).length ∧ kO 12 c d u.1 ∧ kO 1 c mn u.2)) (gO D (fun u : (Nat → Int32) × (Nat → Int32) => [(q 0, eMod T q U), (q 9, eI cy 24 u.1), (q 10, eI cy 2 u.2)]) (va_A [(q 0, eMod T q U), (q 9, eI cy 24 d), (q 10, eI cy 2 mn)] sz)) (va_A [(q 0, eMod T q U), (q 9, eI cy 24 d), (q 10, eI cy 2 mn)] sz)) 0 0 (va_A [(q 0, eMod T q U), (q 9, eI cy 24 d), (q 10, eI cy 2 mn)] sz) := by
  refine gW_v (cc := cX4_soil) (maxL := 5) (by decide) rfl (Nat.le_of_ble_eq_true rfl) ?_
  intro pp ee ss mm bw mt cd QQ AA ls hfx hP hG hD hA hret hl
  have hS : va_S AA ss.heap ss.heap [] := va_S.rf
  obtain ⟨H, eH⟩ : ∃ H, H = ss.heap := ⟨_, rfl⟩
  obtain ⟨locs, eL⟩ : ∃ L : List Loc, L = [] := ⟨_, rfl⟩
  have hP : va_P D vwCl [(q 0, eMod T q U), (q 9, eI cy 24 d), (q 10, eI cy 2 mn)] H := by rw [eH]; exact hP
  have hS : va_S AA ss.heap H locs := by rw [eH, eL]; exact hS
  have goal : ∀ X Y, X = H → Y = locs → W pp l ee ({ frames := 0, cells := 0, slots := 0, locals := 0 } : Room) ss mm ([.ref (q 0), .int (nI c), .int (nI t)] : List Value).toArray bw mt cd X Y 0 0 QQ (F0 mm 0 ls []) → W pp l ee ({ frames := 0, cells := 0, slots := 0, locals := 0 } : Room) ss mm ([.ref (q 0), .int (nI c), .int (nI t)] : List Value).toArray bw mt cd ss.heap [] 0 0 QQ (F0 mm 0 ls []) := fun X Y hX hY h => by rw [hX, hY, eH, eL] at h; exact h
  refine goal H locs rfl rfl ?_
  clear goal eH eL
  obtain ⟨hx, hb, hml, hown, hts, hlocks⟩ := hfx
  have hown : ss.vm.findClass RX4 = some mm.cls := hown
  have hl : lv_has ls 5 [(0, .ref (q 0)), (1, .int (nI c)), (2, .int (nI t))] := hl
  have z1 := okD_len ho
  refine lv_iconst (v := nI 0) hx hb dX4_soil_0 (by decide) ?_
  refine g_ti (y := gb (False)) ((gb_f id).symm) ?_
  refine lv_istore_n (lv' := [(3, .int (gb (False))), (0, .ref (q 0)), (1, .int (nI c)), (2, .int (nI t))]) hx hb dX4_soil_1 rfl hl (by decide) rfl (fun ls hl => ?_)
  refine lv_iconst (v := nI 0) hx hb dX4_soil_2 (by decide) ?_
  refine lv_istore (lv' := [(4, .int (nI 0)), (3, .int (gb (False))), (0, .ref (q 0)), (1, .int (nI c)), (2, .int (nI t))]) hx hb dX4_soil_3 hl (by decide) rfl (fun ls hl => ?_)
  have loop_5 : ∀ (n9 : Nat) (i : Nat) (P : Prop), L.length - i < n9 → (i ≤ L.length) → (P ↔ ∃ j, j < i ∧ L.getD j 0 = t) → ∀ (H : Heap) (locs : List Loc) (ls : Array Slot), va_P D vwCl [(q 0, eMod T q U), (q 9, eI cy 24 d), (q 10, eI cy 2 mn)] H → va_D AA [(q 0, eMod T q U), (q 9, eI cy 24 d), (q 10, eI cy 2 mn)] → va_S AA ss.heap H locs → lv_has ls 5 [(0, .ref (q 0)), (1, .int (nI c)), (2, .int (nI t)), (3, .int (gb (P))), (4, .int (nI i))] → W pp l ee ({ frames := 0, cells := 0, slots := 0, locals := 0 } : Room) ss mm ([.ref (q 0), .int (nI c), .int (nI t)] : List Value).toArray bw mt cd H locs 0 0 QQ (F0 mm 5 ls []) := by
    intro n9
    induction n9 with
    | zero => intro i P h9; exact absurd h9 (Nat.not_lt_zero _)
    | succ n9 ih_5 =>
      intro i P hm_5 hi hP9 H locs ls hP hD hS hl
      refine lv_iload hx hb dX4_soil_5 (lv_at hl 4 rfl) ?_
      refine lv_aload_n hx hb dX4_soil_7 rfl (lv_at hl 0 rfl) ?_
      refine va_get (D := D) (ci := 4) (v := .ref (q 10)) (C := RX4) (T := TX4) (N := 17) hx hb hts iX4_soil_X4 hown hG.1 hP 0 rfl rfl 10 (by decide) (hts (.fieldLink RX4 38 "DirtyTilesModel" "many" "[I") (by decide +kernel)) (fun _ h9 => h9) rfl dX4_soil_8 ?_
      refine lv_iload_n hx hb dX4_soil_11 rfl (lv_at hl 1 rfl) ?_
      refine g_iald hx hb hG hP 2 0 rfl rfl (k := c) (by omega) (by decide) dX4_soil_12 ?_
      refine g_ti (y := nI L.length) (hm9) ?_
      refine lv_icmp_ge (tgt := 48) hx hb dX4_soil_13 (by decide) (fun c_13 => ?_) (fun c_13 => ?_)
      · skip
        have c_13 : L.length ≤ i := (nI_leI (a := L.length) (b := i) (by omega) (by omega)).mp c_13
        refine lv_iload_n hx hb dX4_soil_48 rfl (lv_at hl 3 rfl) ?_
        refine lv_if_ne (tgt := 79) hx hb dX4_soil_49 (by decide) (fun c_49 => ?_) (fun c_49 => ?_)
        · skip
          have c_49 : P := gb_ne0.mp c_49
          have e9 : soil L t = L := by obtain ⟨j, hj, e⟩ := hP9.mp c_49; exact soil_in (i := j) (by omega) e
          exact hret _ _ _ _ ⟨d, mn⟩ dX4_soil_79 (by first | exact ⟨by rw [soil_in (i := (hP9.mp c_49).choose) (by have := (hP9.mp c_49).choose_spec.1; omega) (hP9.mp c_49).choose_spec.2]; exact hd, by rw [e9]; exact hm9, kO_rf _ _ _, kO_rf _ _ _⟩ | exact ⟨by rw [e9]; exact hNo_app hd, by rw [e9, List.length_append]; exact pk_us, kO_up (kO_rf _ _ _) ⟨by omega, by omega⟩, kO_up (kO_rf _ _ _) ⟨by omega, by omega⟩⟩) (hP.sub [0, 1, 2] rfl) (hD.sub [0, 1, 2] (by decide) rfl) hS
        · skip
          have c_49 : ¬ (P) := gb_eq0.mp c_49
          have e9 : soil L t = L ++ [t] := soil_out (fun j hj e => c_49 (hP9.mpr ⟨j, by omega, e⟩))
          have z2 := okD_room ho ht9 e9
          refine lv_aload_n hx hb dX4_soil_52 rfl (lv_at hl 0 rfl) ?_
          refine va_get (D := D) (ci := 4) (v := .ref (q 9)) (C := RX4) (T := TX4) (N := 17) hx hb hts iX4_soil_X4 hown hG.1 hP 0 rfl rfl 9 (by decide) (hts (.fieldLink RX4 35 "DirtyTilesModel" "dirty" "[I") (by decide +kernel)) (fun _ h9 => h9) rfl dX4_soil_53 ?_
          refine lv_bipush (v := nI 12) hx hb dX4_soil_56 (by decide) ?_
          refine lv_iload_n hx hb dX4_soil_58 rfl (lv_at hl 1 rfl) ?_
          refine lv_imul hx hb dX4_soil_59 ?_
          refine g_ti (y := nI (12 * c)) (pk_mul _ _) ?_
          refine lv_aload_n hx hb dX4_soil_60 rfl (lv_at hl 0 rfl) ?_
          refine va_get (D := D) (ci := 4) (v := .ref (q 10)) (C := RX4) (T := TX4) (N := 17) hx hb hts iX4_soil_X4 hown hG.1 hP 0 rfl rfl 10 (by decide) (hts (.fieldLink RX4 38 "DirtyTilesModel" "many" "[I") (by decide +kernel)) (fun _ h9 => h9) rfl dX4_soil_61 ?_
          refine lv_iload_n hx hb dX4_soil_64 rfl (lv_at hl 1 rfl) ?_
          refine g_iald hx hb hG hP 2 0 rfl rfl (k := c) (by omega) (by decide) dX4_soil_65 ?_
          refine g_ti (y := nI L.length) (hm9) ?_
          refine lv_iadd hx hb dX4_soil_66 ?_
          refine g_ti (y := nI ((12 * c) + L.length)) (nI_add _ _) ?_
          refine lv_iload_n hx hb dX4_soil_67 rfl (lv_at hl 2 rfl) ?_
          refine g_iast hx hb hG hP hD hS 1 0 rfl rfl (k := (12 * c) + L.length) (by omega) (by decide) dX4_soil_68 (fun H locs hP hD hS => ?_)
          have hP : va_P D vwCl [(q 0, eMod T q U), (q 9, eI cy 24 (upd d ((12 * c) + L.length) (nI t))), (q 10, eI cy 2 mn)] H := hP
          have hD : va_D AA [(q 0, eMod T q U), (q 9, eI cy 24 (upd d ((12 * c) + L.length) (nI t))), (q 10, eI cy 2 mn)] := hD
          refine lv_aload_n hx hb dX4_soil_69 rfl (lv_at hl 0 rfl) ?_
          refine va_get (D := D) (ci := 4) (v := .ref (q 10)) (C := RX4) (T := TX4) (N := 17) hx hb hts iX4_soil_X4 hown hG.1 hP 0 rfl rfl 10 (by decide) (hts (.fieldLink RX4 38 "DirtyTilesModel" "many" "[I") (by decide +kernel)) (fun _ h9 => h9) rfl dX4_soil_70 ?_
          refine lv_iload_n hx hb dX4_soil_73 rfl (lv_at hl 1 rfl) ?_
          refine lv_dup2_11 hx hb dX4_soil_74 rfl rfl ?_
          refine g_iald hx hb hG hP 2 0 rfl rfl (k := c) (by omega) (by decide) dX4_soil_75 ?_
          refine g_ti (y := nI L.length) (hm9) ?_
          refine lv_iconst (v := nI 1) hx hb dX4_soil_76 (by decide) ?_
          refine lv_iadd hx hb dX4_soil_77 ?_
          refine g_ti (y := nI (L.length + 1)) (nI_add _ _) ?_
          refine g_iast hx hb hG hP hD hS 2 0 rfl rfl (k := c) (by omega) (by decide) dX4_soil_78 (fun H locs hP hD hS => ?_)
          have hP : va_P D vwCl [(q 0, eMod T q U), (q 9, eI cy 24 (upd d ((12 * c) + L.length) (nI t))), (q 10, eI cy 2 (upd mn c (nI (L.length + 1))))] H := hP
          have hD : va_D AA [(q 0, eMod T q U), (q 9, eI cy 24 (upd d ((12 * c) + L.length) (nI t))), (q 10, eI cy 2 (upd mn c (nI (L.length + 1))))] := hD
          exact hret _ _ _ _ ⟨upd d ((12 * c) + L.length) (nI t), upd mn c (nI (L.length + 1))⟩ dX4_soil_79 (by first | exact ⟨by rw [soil_in (i := (hP9.mp c_49).choose) (by have := (hP9.mp c_49).choose_spec.1; omega) (hP9.mp c_49).choose_spec.2]; exact hd, by rw [e9]; exact hm9, kO_rf _ _ _, kO_rf _ _ _⟩ | exact ⟨by rw [e9]; exact hNo_app hd, by rw [e9, List.length_append]; exact pk_us, kO_up (kO_rf _ _ _) ⟨by omega, by omega⟩, kO_up (kO_rf _ _ _) ⟨by omega, by omega⟩⟩) (hP.sub [0, 1, 2] rfl) (hD.sub [0, 1, 2] (by decide) rfl) hS
      · skip
        have c_13 : ¬ L.length ≤ i := fun z => c_13 ((nI_leI (a := L.length) (b := i) (by omega) (by omega)).mpr z)
        refine lv_iload_n hx hb dX4_soil_16 rfl (lv_at hl 3 rfl) ?_
        refine lv_if_ne (tgt := 36) hx hb dX4_soil_17 (by decide) (fun c_17 => ?_) (fun c_17 => ?_)
        · skip
          have c_17 : P := gb_ne0.mp c_17
          refine lv_iconst (v := nI 1) hx hb dX4_soil_36 (by decide) ?_
          refine g_ti (y := gb (True)) ((gb_t trivial).symm) ?_
          refine lv_goto (tgt := 41) hx hb dX4_soil_37 (by decide) ?_
          refine lv_istore_n (lv' := [(3, .int (gb (True))), (0, .ref (q 0)), (1, .int (nI c)), (2, .int (nI t)), (4, .int (nI i))]) hx hb dX4_soil_41 rfl hl (by decide) rfl (fun ls hl => ?_)
          refine lv_iinc (v := nI (i + 1)) (lv' := [(4, .int (nI (i + 1))), (3, .int (gb (True))), (0, .ref (q 0)), (1, .int (nI c)), (2, .int (nI t))]) hx hb dX4_soil_42 hl (k := 4) rfl (nI_1 _) (by decide) rfl (fun ls hl => ?_)
          refine lv_goto (tgt := 5) hx hb dX4_soil_45 (by decide) ?_
          exact ih_5 (i + 1) True (by clear hP9; omega) (by clear hP9; omega) (by rw [ex_succ, ← hP9]; first | exact iff_of_true trivial (Or.inl (by assumption)) | exact iff_of_true trivial (Or.inr (by assumption)) | exact iff_of_false id (fun z => z.elim (by assumption) (by assumption))) _ _ _ (hP.sub [0, 1, 2] rfl) (hD.sub [0, 1, 2] (by decide) rfl) hS (lv_sub hl [2, 3, 4, 1, 0] rfl)
        · skip
          have c_17 : ¬ (P) := gb_eq0.mp c_17
          refine lv_aload_n hx hb dX4_soil_20 rfl (lv_at hl 0 rfl) ?_
          refine va_get (D := D) (ci := 4) (v := .ref (q 9)) (C := RX4) (T := TX4) (N := 17) hx hb hts iX4_soil_X4 hown hG.1 hP 0 rfl rfl 9 (by decide) (hts (.fieldLink RX4 35 "DirtyTilesModel" "dirty" "[I") (by decide +kernel)) (fun _ h9 => h9) rfl dX4_soil_21 ?_
          refine lv_bipush (v := nI 12) hx hb dX4_soil_24 (by decide) ?_
          refine lv_iload_n hx hb dX4_soil_26 rfl (lv_at hl 1 rfl) ?_
          refine lv_imul hx hb dX4_soil_27 ?_
          refine g_ti (y := nI (12 * c)) (pk_mul _ _) ?_
          refine lv_iload hx hb dX4_soil_28 (lv_at hl 4 rfl) ?_
          refine lv_iadd hx hb dX4_soil_30 ?_
          refine g_ti (y := nI ((12 * c) + i)) (nI_add _ _) ?_
          refine g_iald hx hb hG hP 1 0 rfl rfl (k := (12 * c) + i) (by omega) (by decide) dX4_soil_31 ?_
          refine g_ti (y := nI (L.getD i 0)) (hd i (by omega)) ?_
          refine lv_iload_n hx hb dX4_soil_32 rfl (lv_at hl 2 rfl) ?_
          refine lv_icmp_ne (tgt := 40) hx hb dX4_soil_33 (by decide) (fun c_33 => ?_) (fun c_33 => ?_)
          · skip
            have c_33 : ¬ (L.getD i 0) = t := fun z => c_33 ((nI_eq (a := (L.getD i 0)) (b := t) (by have := okD_get ho (i := i) (by omega); omega) (by omega)).mpr z)
            refine lv_iconst (v := nI 0) hx hb dX4_soil_40 (by decide) ?_
            refine g_ti (y := gb (False)) ((gb_f id).symm) ?_
            refine lv_istore_n (lv' := [(3, .int (gb (False))), (0, .ref (q 0)), (1, .int (nI c)), (2, .int (nI t)), (4, .int (nI i))]) hx hb dX4_soil_41 rfl hl (by decide) rfl (fun ls hl => ?_)
            refine lv_iinc (v := nI (i + 1)) (lv' := [(4, .int (nI (i + 1))), (3, .int (gb (False))), (0, .ref (q 0)), (1, .int (nI c)), (2, .int (nI t))]) hx hb dX4_soil_42 hl (k := 4) rfl (nI_1 _) (by decide) rfl (fun ls hl => ?_)
            refine lv_goto (tgt := 5) hx hb dX4_soil_45 (by decide) ?_
            exact ih_5 (i + 1) False (by clear hP9; omega) (by clear hP9; omega) (by rw [ex_succ, ← hP9]; first | exact iff_of_true trivial (Or.inl (by assumption)) | exact iff_of_true trivial (Or.inr (by assumption)) | exact iff_of_false id (fun z => z.elim (by assumption) (by assumption))) _ _ _ (hP.sub [0, 1, 2] rfl) (hD.sub [0, 1, 2] (by decide) rfl) hS (lv_sub hl [2, 3, 4, 1, 0] rfl)
          · skip
            have c_33 : (L.getD i 0) = t := (nI_eq (a := (L.getD i 0)) (b := t) (by have := okD_get ho (i := i) (by omega); omega) (by omega)).mp c_33
            refine lv_iconst (v := nI 1) hx hb dX4_soil_36 (by decide) ?_
            refine g_ti (y := gb (True)) ((gb_t trivial).symm) ?_
            refine lv_goto (tgt := 41) hx hb dX4_soil_37 (by decide) ?_
            refine lv_istore_n (lv' := [(3, .int (gb (True))), (0, .ref (q 0)), (1, .int (nI c)), (2, .int (nI t)), (4, .int (nI i))]) hx hb dX4_soil_41 rfl hl (by decide) rfl (fun ls hl => ?_)
            refine lv_iinc (v := nI (i + 1)) (lv' := [(4, .int (nI (i + 1))), (3, .int (gb (True))), (0, .ref (q 0)), (1, .int (nI c)), (2, .int (nI t))]) hx hb dX4_soil_42 hl (k := 4) rfl (nI_1 _) (by decide) rfl (fun ls hl => ?_)
            refine lv_goto (tgt := 5) hx hb dX4_soil_45 (by decide) ?_
            exact ih_5 (i + 1) True (by clear hP9; omega) (by clear hP9; omega) (by rw [ex_succ, ← hP9]; first | exact iff_of_true trivial (Or.inl (by assumption)) | exact iff_of_true trivial (Or.inr (by assumption)) | exact iff_of_false id (fun z => z.elim (by assumption) (by assumption))) _ _ _ (hP.sub [0, 1, 2] rfl) (hD.sub [0, 1, 2] (by decide) rfl) hS (lv_sub hl [2, 3, 4, 1, 0] rfl)
  exact loop_5 ((L.length - 0) + 1) 0 False (Nat.lt_succ_self _) (by omega) ⟨fun h => h.elim, fun ⟨j, h, _⟩ => absurd h (Nat.not_lt_zero j)⟩ _ _ _ (hP.sub [0, 1, 2] rfl) (hD.sub [0, 1, 2] (by decide) rfl) hS (lv_sub hl [2, 3, 4, 1, 0] rfl)
