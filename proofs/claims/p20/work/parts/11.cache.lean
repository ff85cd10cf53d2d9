/-! the class: caches -/
/-! lists of tiles, as a cache holds them -/
def hC (L : List Int64) (f : Nat → Int64) : Prop := ∀ i, i < L.length → L[i]? = some (f i)
def ixF : List Int64 → Int64 → Nat
  | [], _ => 0
  | y :: r, x => if y = x then 0 else ixF r x + 1
theorem ixF_le : ∀ (L : List Int64) (x : Int64), ixF L x ≤ L.length
  | [], _ => Nat.le_refl _
  | y :: r, x => by
    unfold ixF
    split
    · exact Nat.zero_le _
    · exact Nat.succ_le_succ (ixF_le r x)
theorem ixF_at : ∀ (L : List Int64) (x : Int64) (i : Nat), i ≤ L.length → (∀ j, j < i → L[j]? ≠ some x) → (i < L.length → L[i]? = some x) → ixF L x = i
  | [], x, i, hi, _, _ => by
    have : i = 0 := Nat.le_zero.mp hi
    rw [this]; rfl
  | y :: r, x, 0, _, _, h => by
    have h0 := h (Nat.succ_pos _)
    have : y = x := by simpa using h0
    unfold ixF
    rw [if_pos this]
  | y :: r, x, i + 1, hi, hno, h => by
    have h0 : y ≠ x := fun e => hno 0 (Nat.succ_pos _) (by rw [e]; rfl)
    unfold ixF
    rw [if_neg h0]
    refine congrArg (· + 1) (ixF_at r x i (Nat.le_of_succ_le_succ hi) (fun j hj => ?_) (fun hl => ?_))
    · have := hno (j + 1) (Nat.succ_lt_succ hj)
      simpa using this
    · have := h (Nat.succ_lt_succ hl)
      simpa using this
/-- a tile to the front of a cache -/
def brg (L : List Int64) (x : Int64) : List Int64 := x :: (L.eraseIdx (ixF L x)).take 5
theorem brg_len {L : List Int64} {x : Int64} (hL : L.length ≤ 6) : (brg L x).length = if ixF L x = L.length ∧ L.length < 6 then L.length + 1 else L.length := by
  have h := ixF_le L x
  unfold brg
  rw [List.length_cons, List.length_take, List.length_eraseIdx]
  split <;> split <;> omega
theorem brg_le (L : List Int64) (x : Int64) : (brg L x).length ≤ 6 := by
  unfold brg
  rw [List.length_cons, List.length_take]
  omega
theorem brg_hC {L : List Int64} {x : Int64} {f g : Nat → Int64} (hf : hC L f) (hL : L.length ≤ 6) (hg : ∀ i, i ≤ 5 → g i = if 0 < i ∧ i ≤ min (ixF L x) 5 then f (i - 1) else f i) : hC (brg L x) (vp_updL g 0 x) := by
  intro i hi
  have hp := ixF_le L x
  cases i with
  | zero => rw [pk_uLs]; rfl
  | succ k =>
    rw [pk_uLn (Nat.succ_ne_zero k)]
    unfold brg at hi ⊢
    rw [List.length_cons, List.length_take, List.length_eraseIdx] at hi
    have hk : k < 5 := by omega
    rw [List.getElem?_cons_succ, List.getElem?_take, if_pos hk, List.getElem?_eraseIdx, hg (k + 1) (by omega)]
    by_cases hc : k < ixF L x
    · rw [if_pos hc, if_pos ⟨Nat.succ_pos _, by omega⟩]
      exact hf k (by omega)
    · rw [if_neg hc, if_neg (by omega)]
      refine hf (k + 1) ?_
      split at hi <;> omega
theorem hC_eq {L K : List Int64} {f g : Nat → Int64} (hf : hC L f) (hg : hC K g) (hl : L.length = K.length) (h : ∀ i, i < L.length → f i = g i) : L = K := by
  apply List.ext_getElem?
  intro i
  by_cases hi : i < L.length
  · rw [hf i hi, hg i (by omega), h i hi]
  · rw [List.getElem?_eq_none (by omega), List.getElem?_eq_none (by omega)]
theorem hC_ne {L K : List Int64} {f g : Nat → Int64} (hf : hC L f) (hg : hC K g) {i : Nat} (hi : i < L.length) (h : ¬ f i = g i) : ¬ L = K := by
  intro e
  subst e
  exact h (Option.some.inj ((hf i hi).symm.trans (hg i hi)))
theorem iX0_size_X0 : ∀ w ∈ wsX00, w ∈ wsX0_size := by decide +kernel
set_option maxHeartbeats 4000000 in
set_option maxRecDepth 100000 in
theorem c_X0_size (l : Launch) (D : va_G) (cy : Nat → ClassId) (h t : Nat) (L : List Int64) (f : Nat → Int64) (hf : hC L f) (hL : L.length ≤ 6) : Met l yX0_size wsX0_size ({ frames := 0, cells := 0, slots := 0, locals := 0 } : Room) (va_Pc [.ref h] (gR D (gT cy) [(h, eCch t (nI L.length)), (t, eJ cy 6 f)])) (vp_Si (fun r9 => r9 = nI L.length)) 0 0 (fun _ => False) := by
  refine gM_i (cc := cX0_size) (maxL := 1) (ty := .int) (by decide) rfl (Nat.le_of_ble_eq_true rfl) (fun v hv => by rw [hv]; first | rfl | exact gb_nar _) ?_
  intro pp ee ss mm bw mt cd QQ ls hfx hP hG hret hl
  obtain ⟨hx, hb, hml, hown, hts, hlocks⟩ := hfx
  have hown : ss.vm.findClass RX0 = some mm.cls := hown
  have hl : lv_has ls 1 [(0, .ref h)] := hl
  refine lv_aload_n hx hb dX0_size_0 rfl (lv_at hl 0 rfl) ?_
  refine va_get (D := D) (ci := 0) (v := .int (nI L.length)) (C := RX0) (T := TX0) (N := 2) hx hb hts iX0_size_X0 hown hG.1 hP 0 rfl rfl 1 (by decide) (hts (.fieldLink RX0 15 "DirtyTiles$Cache" "count" "I") (by decide +kernel)) (fun _ h9 => h9) rfl dX0_size_1 ?_
  exact hret _ _ _ dX0_size_4 rfl
theorem iX0_clear_X0 : ∀ w ∈ wsX00, w ∈ wsX0_clear := by decide +kernel
set_option maxHeartbeats 4000000 in
set_option maxRecDepth 100000 in
theorem c_X0_clear (l : Launch) (D : va_G) (cy : Nat → ClassId) (sz : Nat) (h t : Nat) (n : Int32) (f : Nat → Int64)  : Met l yX0_clear wsX0_clear ({ frames := 0, cells := 0, slots := 0, locals := 0 } : Room) (va_Pc [.ref h] (gI D (gT cy) [(h, eCch t n), (t, eJ cy 6 f)] sz)) (va_Qv (fun u : Unit => (True)) (gO D (fun u : Unit => [(h, eCch t (nI 0)), (t, eJ cy 6 f)]) (va_A [(h, eCch t n), (t, eJ cy 6 f)] sz)) (va_A [(h, eCch t n), (t, eJ cy 6 f)] sz)) 0 0 (va_A [(h, eCch t n), (t, eJ cy 6 f)] sz) := by
  refine gW_v (cc := cX0_clear) (maxL := 1) (by decide) rfl (Nat.le_of_ble_eq_true rfl) ?_
  intro pp ee ss mm bw mt cd QQ AA ls hfx hP hG hD hA hret hl
  have hS : va_S AA ss.heap ss.heap [] := va_S.rf
  obtain ⟨H, eH⟩ : ∃ H, H = ss.heap := ⟨_, rfl⟩
  obtain ⟨locs, eL⟩ : ∃ L : List Loc, L = [] := ⟨_, rfl⟩
  have hP : va_P D vwCl [(h, eCch t n), (t, eJ cy 6 f)] H := by rw [eH]; exact hP
  have hS : va_S AA ss.heap H locs := by rw [eH, eL]; exact hS
  have goal : ∀ X Y, X = H → Y = locs → W pp l ee ({ frames := 0, cells := 0, slots := 0, locals := 0 } : Room) ss mm ([.ref h] : List Value).toArray bw mt cd X Y 0 0 QQ (F0 mm 0 ls []) → W pp l ee ({ frames := 0, cells := 0, slots := 0, locals := 0 } : Room) ss mm ([.ref h] : List Value).toArray bw mt cd ss.heap [] 0 0 QQ (F0 mm 0 ls []) := fun X Y hX hY h => by rw [hX, hY, eH, eL] at h; exact h
  refine goal H locs rfl rfl ?_
  clear goal eH eL
  obtain ⟨hx, hb, hml, hown, hts, hlocks⟩ := hfx
  have hown : ss.vm.findClass RX0 = some mm.cls := hown
  have hl : lv_has ls 1 [(0, .ref h)] := hl
  refine lv_aload_n hx hb dX0_clear_0 rfl (lv_at hl 0 rfl) ?_
  refine lv_iconst (v := nI 0) hx hb dX0_clear_1 (by decide) ?_
  refine va_put (D := D) (ci := 0) (v := .int (nI 0)) (ty := .int) (C := RX0) (T := TX0) (N := 2) hx hb hts iX0_clear_X0 tyX0 tyX0_ok nmX0 hown hG.1 hP hD hS 0 rfl rfl 1 (by decide) (hts (.fieldLink RX0 15 "DirtyTiles$Cache" "count" "I") (by decide +kernel)) (fun _ h9 => h9) rfl (by decide +kernel) rfl rfl (Nat.le_of_ble_eq_true rfl) dX0_clear_2 (fun H locs hP hD hS => ?_)
  have hP : va_P D vwCl [(h, eCch t (nI 0)), (t, eJ cy 6 f)] H := hP
  have hD : va_D AA [(h, eCch t (nI 0)), (t, eJ cy 6 f)] := hD
  exact hret _ _ _ _ () dX0_clear_5 (trivial) (hP.sub [0, 1] rfl) (hD.sub [0, 1] (by decide) rfl) hS
theorem iX0_placeOf_X0 : ∀ w ∈ wsX00, w ∈ wsX0_placeOf := by decide +kernel
set_option maxHeartbeats 4000000 in
set_option maxRecDepth 100000 in
theorem c_X0_placeOf (l : Launch) (D : va_G) (cy : Nat → ClassId) (h t : Nat) (L : List Int64) (f : Nat → Int64) (x : Int64) (hf : hC L f) (hL : L.length ≤ 6) : Met l yX0_placeOf wsX0_placeOf ({ frames := 0, cells := 0, slots := 0, locals := 0 } : Room) (va_Pc [.ref h, .long x] (gR D (gT cy) [(h, eCch t (nI L.length)), (t, eJ cy 6 f)])) (vp_Si (fun r9 => r9 = nI (ixF L x))) 0 0 (fun _ => False) := by
  refine gM_i (cc := cX0_placeOf) (maxL := 4) (ty := .int) (by decide) rfl (Nat.le_of_ble_eq_true rfl) (fun v hv => by rw [hv]; first | rfl | exact gb_nar _) ?_
  intro pp ee ss mm bw mt cd QQ ls hfx hP hG hret hl
  obtain ⟨hx, hb, hml, hown, hts, hlocks⟩ := hfx
  have hown : ss.vm.findClass RX0 = some mm.cls := hown
  have hl : lv_has ls 4 [(0, .ref h), (1, .long x)] := hl
  refine lv_iconst (v := nI 0) hx hb dX0_placeOf_0 (by decide) ?_
  refine lv_istore_n (lv' := [(3, .int (nI 0)), (0, .ref h), (1, .long x)]) hx hb dX0_placeOf_1 rfl hl (by decide) rfl (fun ls hl => ?_)
  have loop_2 : ∀ (n9 : Nat) (i : Nat), L.length - i < n9 → (i ≤ L.length) → (∀ j, j < i → L[j]? ≠ some x) → ∀ (ls : Array Slot), lv_has ls 4 [(0, .ref h), (1, .long x), (3, .int (nI i))] → W pp l ee ({ frames := 0, cells := 0, slots := 0, locals := 0 } : Room) ss mm ([.ref h, .long x] : List Value).toArray bw mt cd ss.heap [] 0 0 QQ (F0 mm 2 ls []) := by
    intro n9
    induction n9 with
    | zero => intro i h9; exact absurd h9 (Nat.not_lt_zero _)
    | succ n9 ih_2 =>
      intro i hm_2 hi hno ls hl
      refine lv_iload_n hx hb dX0_placeOf_2 rfl (lv_at hl 2 rfl) ?_
      refine lv_aload_n hx hb dX0_placeOf_3 rfl (lv_at hl 0 rfl) ?_
      refine va_get (D := D) (ci := 0) (v := .int (nI L.length)) (C := RX0) (T := TX0) (N := 2) hx hb hts iX0_placeOf_X0 hown hG.1 hP 0 rfl rfl 1 (by decide) (hts (.fieldLink RX0 15 "DirtyTiles$Cache" "count" "I") (by decide +kernel)) (fun _ h9 => h9) rfl dX0_placeOf_4 ?_
      refine lv_icmp_ge (tgt := 29) hx hb dX0_placeOf_7 (by decide) (fun c_7 => ?_) (fun c_7 => ?_)
      · skip
        have c_7 : L.length ≤ i := (nI_leI (a := L.length) (b := i) (by omega) (by omega)).mp c_7
        refine lv_aload_n hx hb dX0_placeOf_29 rfl (lv_at hl 0 rfl) ?_
        refine va_get (D := D) (ci := 0) (v := .int (nI L.length)) (C := RX0) (T := TX0) (N := 2) hx hb hts iX0_placeOf_X0 hown hG.1 hP 0 rfl rfl 1 (by decide) (hts (.fieldLink RX0 15 "DirtyTiles$Cache" "count" "I") (by decide +kernel)) (fun _ h9 => h9) rfl dX0_placeOf_30 ?_
        exact hret _ _ _ dX0_placeOf_33 (by rw [ixF_at L x i hi hno (fun hl => absurd hl (by omega))]; have : i = L.length := (by omega); rw [this])
      · skip
        have c_7 : ¬ L.length ≤ i := fun z => c_7 ((nI_leI (a := L.length) (b := i) (by omega) (by omega)).mpr z)
        refine lv_aload_n hx hb dX0_placeOf_10 rfl (lv_at hl 0 rfl) ?_
        refine va_get (D := D) (ci := 0) (v := .ref t) (C := RX0) (T := TX0) (N := 2) hx hb hts iX0_placeOf_X0 hown hG.1 hP 0 rfl rfl 0 (by decide) (hts (.fieldLink RX0 9 "DirtyTiles$Cache" "tiles" "[J") (by decide +kernel)) (fun _ h9 => h9) rfl dX0_placeOf_11 ?_
        refine lv_iload_n hx hb dX0_placeOf_14 rfl (lv_at hl 2 rfl) ?_
        refine g_lald hx hb hG hP 1 1 rfl rfl (k := i) (by omega) (by decide) dX0_placeOf_15 ?_
        refine lv_lload_n hx hb dX0_placeOf_16 rfl (lv_at hl 1 rfl) ?_
        refine W.lcmp hx hb dX0_placeOf_17 ?_
        refine lv_if_ne (tgt := 23) hx hb dX0_placeOf_18 (by decide) (fun c_18 => ?_) (fun c_18 => ?_)
        · skip
          have c_18 : ¬ f i = x := fun z => c_18 (g_cmp0.mpr z)
          refine lv_iinc (v := nI (i + 1)) (lv' := [(3, .int (nI (i + 1))), (0, .ref h), (1, .long x)]) hx hb dX0_placeOf_23 hl (k := 2) rfl (nI_1 _) (by decide) rfl (fun ls hl => ?_)
          refine lv_goto (tgt := 2) hx hb dX0_placeOf_26 (by decide) ?_
          exact ih_2 (i + 1) (by omega) (by omega) (lt_s hno (fun e => c_18 (Option.some.inj ((hf i (by omega)).symm.trans e)))) _ (lv_sub hl [1, 2, 0] rfl)
        · skip
          have c_18 : f i = x := g_cmp0.mp c_18
          refine lv_iload_n hx hb dX0_placeOf_21 rfl (lv_at hl 2 rfl) ?_
          exact hret _ _ _ dX0_placeOf_22 (by rw [ixF_at L x i hi hno (fun hl => by rw [hf i hl, c_18])])
  exact loop_2 ((L.length - 0) + 1) 0 (Nat.lt_succ_self _) (by omega) (fun j hj => absurd hj (Nat.not_lt_zero j)) _ (lv_sub hl [1, 2, 0] rfl)
theorem iX0_holds_X0 : ∀ w ∈ wsX00, w ∈ wsX0_holds := by decide +kernel
set_option maxHeartbeats 4000000 in
set_option maxRecDepth 100000 in
theorem c_X0_holds (l : Launch) (D : va_G) (cy : Nat → ClassId) (h t : Nat) (L : List Int64) (f : Nat → Int64) (x : Int64) (hf : hC L f) (hL : L.length ≤ 6) : Met l yX0_holds wsX0_holds ({ frames := 1, cells := 0, slots := 0, locals := 23 } : Room) (va_Pc [.ref h, .long x] (gR D (gT cy) [(h, eCch t (nI L.length)), (t, eJ cy 6 f)])) (vp_Si (fun r9 => r9 = gb (ixF L x < L.length))) 0 0 (fun _ => False) := by
  refine gM_i (cc := cX0_holds) (maxL := 3) (ty := .boolean) (by decide) rfl (Nat.le_of_ble_eq_true rfl) (fun v hv => by rw [hv]; first | rfl | exact gb_nar _) ?_
  intro pp ee ss mm bw mt cd QQ ls hfx hP hG hret hl
  obtain ⟨hx, hb, hml, hown, hts, hlocks⟩ := hfx
  have hown : ss.vm.findClass RX0 = some mm.cls := hown
  have hl : lv_has ls 3 [(0, .ref h), (1, .long x)] := hl
  refine lv_aload_n hx hb dX0_holds_0 rfl (lv_at hl 0 rfl) ?_
  refine lv_lload_n hx hb dX0_holds_1 rfl (lv_at hl 1 rfl) ?_
  refine gc_Si (va_runV (As := [.long x]) (rest := []) ⟨hx, hb, hml, hown, hts⟩ (c_X0_placeOf l D cy h t L f x hf hL) (cwV 1 hts gX0_holds_X0_placeOf rfl rfl rfl (by decide +kernel) ⟨Nat.le_of_ble_eq_true rfl, Nat.le_of_ble_eq_true rfl⟩) (gpVR (ci := 0) (q0 := 0) hG (hP.sub [0, 1] rfl) rfl rfl) rfl rfl hl.1 rfl (lv_room (Nat.le_of_ble_eq_true rfl)) dX0_holds_2 ⟨Nat.zero_le _, Nat.zero_le _⟩) ?_
  refine lv_aload_n hx hb dX0_holds_5 rfl (lv_at hl 0 rfl) ?_
  refine va_get (D := D) (ci := 0) (v := .int (nI L.length)) (C := RX0) (T := TX0) (N := 2) hx hb hts iX0_holds_X0 hown hG.1 hP 0 rfl rfl 1 (by decide) (hts (.fieldLink RX0 15 "DirtyTiles$Cache" "count" "I") (by decide +kernel)) (fun _ h9 => h9) rfl dX0_holds_6 ?_
  have hz := ixF_le L x
  refine lv_icmp_ge (tgt := 16) hx hb dX0_holds_9 (by decide) (fun c_9 => ?_) (fun c_9 => ?_)
  · skip
    have c_9 : L.length ≤ (ixF L x) := (nI_leI (a := L.length) (b := (ixF L x)) (by omega) (by omega)).mp c_9
    refine lv_iconst (v := nI 0) hx hb dX0_holds_16 (by decide) ?_
    exact hret _ _ _ dX0_holds_17 (by first | exact (gb_t (by omega)).symm | exact (gb_f (by omega)).symm)
  · skip
    have c_9 : ¬ L.length ≤ (ixF L x) := fun z => c_9 ((nI_leI (a := L.length) (b := (ixF L x)) (by omega) (by omega)).mpr z)
    refine lv_iconst (v := nI 1) hx hb dX0_holds_12 (by decide) ?_
    refine lv_goto (tgt := 17) hx hb dX0_holds_13 (by decide) ?_
    exact hret _ _ _ dX0_holds_17 (by first | exact (gb_t (by omega)).symm | exact (gb_f (by omega)).symm)
theorem brg_step {p j : Nat} {f g : Nat → Int64} (hj : j ≤ min p 5) (h0 : 0 < j) (hg : ∀ i, i ≤ 5 → g i = if j < i ∧ i ≤ min p 5 then f (i - 1) else f i) : ∀ i, i ≤ 5 → vp_updL g j (g (j - 1)) i = if j - 1 < i ∧ i ≤ min p 5 then f (i - 1) else f i := by
  intro i hi
  unfold vp_updL
  by_cases e : i = j
  · subst e
    rw [if_pos rfl, if_pos ⟨by omega, hj⟩, hg (i - 1) (by omega), if_neg (by omega)]
  · rw [if_neg e, hg i hi]
    by_cases h1 : j < i ∧ i ≤ min p 5
    · rw [if_pos h1, if_pos ⟨by omega, h1.2⟩]
    · rw [if_neg h1, if_neg (by omega)]
theorem iX0_bringToFront_X0 : ∀ w ∈ wsX00, w ∈ wsX0_bringToFront := by decide +kernel
set_option maxHeartbeats 4000000 in
set_option maxRecDepth 100000 in
theorem c_X0_bringToFront (l : Launch) (D : va_G) (cy : Nat → ClassId) (sz : Nat) (h t : Nat) (L : List Int64) (f : Nat → Int64) (x : Int64) (hf : hC L f) (hL : L.length ≤ 6) : Met l yX0_bringToFront wsX0_bringToFront ({ frames := 1, cells := 0, slots := 0, locals := 30 } : Room) (va_Pc [.ref h, .long x] (gI D (gT cy) [(h, eCch t (nI L.length)), (t, eJ cy 6 f)] sz)) (va_Qv (fun u : (Nat → Int64) => (hC (brg L x) u)) (gO D (fun u : (Nat → Int64) => [(h, eCch t (nI (brg L x).length)), (t, eJ cy 6 u)]) (va_A [(h, eCch t (nI L.length)), (t, eJ cy 6 f)] sz)) (va_A [(h, eCch t (nI L.length)), (t, eJ cy 6 f)] sz)) 0 0 (va_A [(h, eCch t (nI L.length)), (t, eJ cy 6 f)] sz) := by
  refine gW_v (cc := cX0_bringToFront) (maxL := 5) (by decide) rfl (Nat.le_of_ble_eq_true rfl) ?_
  intro pp ee ss mm bw mt cd QQ AA ls hfx hP hG hD hA hret hl
  have hS : va_S AA ss.heap ss.heap [] := va_S.rf
  obtain ⟨H, eH⟩ : ∃ H, H = ss.heap := ⟨_, rfl⟩
  obtain ⟨locs, eL⟩ : ∃ L : List Loc, L = [] := ⟨_, rfl⟩
  have hP : va_P D vwCl [(h, eCch t (nI L.length)), (t, eJ cy 6 f)] H := by rw [eH]; exact hP
  have hS : va_S AA ss.heap H locs := by rw [eH, eL]; exact hS
  have goal : ∀ X Y, X = H → Y = locs → W pp l ee ({ frames := 1, cells := 0, slots := 0, locals := 30 } : Room) ss mm ([.ref h, .long x] : List Value).toArray bw mt cd X Y 0 0 QQ (F0 mm 0 ls []) → W pp l ee ({ frames := 1, cells := 0, slots := 0, locals := 30 } : Room) ss mm ([.ref h, .long x] : List Value).toArray bw mt cd ss.heap [] 0 0 QQ (F0 mm 0 ls []) := fun X Y hX hY h => by rw [hX, hY, eH, eL] at h; exact h
  refine goal H locs rfl rfl ?_
  clear goal eH eL
  obtain ⟨hx, hb, hml, hown, hts, hlocks⟩ := hfx
  have hown : ss.vm.findClass RX0 = some mm.cls := hown
  have hl : lv_has ls 5 [(0, .ref h), (1, .long x)] := hl
  have hz := ixF_le L x
  have hb9 := brg_len (L := L) (x := x) hL
  refine lv_aload_n hx hb dX0_bringToFront_0 rfl (lv_at hl 0 rfl) ?_
  refine lv_lload_n hx hb dX0_bringToFront_1 rfl (lv_at hl 1 rfl) ?_
  refine gc_Si (va_runV (As := [.long x]) (rest := []) ⟨hx, hb, hml, hown, hts⟩ (c_X0_placeOf l D cy h t L f x hf hL) (cwV 1 hts gX0_bringToFront_X0_placeOf rfl rfl rfl (by decide +kernel) ⟨Nat.le_of_ble_eq_true rfl, Nat.le_of_ble_eq_true rfl⟩) (gpVR (ci := 0) (q0 := 0) hG (hP.sub [0, 1] rfl) rfl rfl) rfl rfl hl.1 rfl (lv_room (Nat.le_of_ble_eq_true rfl)) dX0_bringToFront_2 ⟨Nat.zero_le _, Nat.zero_le _⟩) ?_
  refine lv_istore_n (lv' := [(3, .int (nI (ixF L x))), (0, .ref h), (1, .long x)]) hx hb dX0_bringToFront_5 rfl hl (by decide) rfl (fun ls hl => ?_)
  have join_33 : ∀ (k : Nat), (k = (brg L x).length) → ∀ (H : Heap) (locs : List Loc) (ls : Array Slot), va_P D vwCl [(h, eCch t (nI k)), (t, eJ cy 6 f)] H → va_D AA [(h, eCch t (nI k)), (t, eJ cy 6 f)] → va_S AA ss.heap H locs → lv_has ls 5 [(0, .ref h), (1, .long x), (3, .int (nI (ixF L x)))] → W pp l ee ({ frames := 1, cells := 0, slots := 0, locals := 30 } : Room) ss mm ([.ref h, .long x] : List Value).toArray bw mt cd H locs 0 0 QQ (F0 mm 33 ls []) := by
    intro k hk H locs ls hP hD hS hl
    subst hk
    refine lv_iload_n hx hb dX0_bringToFront_33 rfl (lv_at hl 2 rfl) ?_
    refine lv_iconst (v := nI 5) hx hb dX0_bringToFront_34 (by decide) ?_
    refine va_mmin hx hb (hml.trans hl.1.symm) hown (hts (.methodLink RX0 23 Lib.Math.min.name) (by decide +kernel)) (hts (.static Lib.Math.min.name) (by decide +kernel)) (hts (.initialized "java/lang/Math") (by decide +kernel)) (hts (.code Lib.Math.min.name Lib.Math.min.code 2 (some .int)) (by decide +kernel)) (Nat.le_of_ble_eq_true rfl) (Nat.le_of_ble_eq_true rfl) (Nat.le_of_ble_eq_true rfl) (Nat.le_of_ble_eq_true rfl) dX0_bringToFront_35 ?_
    refine g_ti (y := nI (min (ixF L x) 5)) (g_min (by omega) (by omega)) ?_
    refine lv_istore (lv' := [(4, .int (nI (min (ixF L x) 5))), (0, .ref h), (1, .long x), (3, .int (nI (ixF L x)))]) hx hb dX0_bringToFront_38 hl (by decide) rfl (fun ls hl => ?_)
    have loop_40 : ∀ (n9 : Nat) (j : Nat) (g : Nat → Int64), j < n9 → (j ≤ min (ixF L x) 5) → (∀ i, i ≤ 5 → g i = if j < i ∧ i ≤ min (ixF L x) 5 then f (i - 1) else f i) → ∀ (H : Heap) (locs : List Loc) (ls : Array Slot), va_P D vwCl [(h, eCch t (nI (brg L x).length)), (t, eJ cy 6 g)] H → va_D AA [(h, eCch t (nI (brg L x).length)), (t, eJ cy 6 g)] → va_S AA ss.heap H locs → lv_has ls 5 [(0, .ref h), (1, .long x), (3, .int (nI (ixF L x))), (4, .int (nI j))] → W pp l ee ({ frames := 1, cells := 0, slots := 0, locals := 30 } : Room) ss mm ([.ref h, .long x] : List Value).toArray bw mt cd H locs 0 0 QQ (F0 mm 40 ls []) := by
      intro n9
      induction n9 with
      | zero => intro j g h9; exact absurd h9 (Nat.not_lt_zero _)
      | succ n9 ih_40 =>
        intro j g hm_40 hj hg H locs ls hP hD hS hl
        refine lv_iload hx hb dX0_bringToFront_40 (lv_at hl 3 rfl) ?_
        refine lv_if_le (tgt := 67) hx hb dX0_bringToFront_42 (by decide) (fun c_42 => ?_) (fun c_42 => ?_)
        · skip
          have c_42 : j ≤ 0 := (nI_leI (a := j) (b := 0) (by omega) (by omega)).mp c_42
          refine lv_aload_n hx hb dX0_bringToFront_67 rfl (lv_at hl 0 rfl) ?_
          refine va_get (D := D) (ci := 0) (v := .ref t) (C := RX0) (T := TX0) (N := 2) hx hb hts iX0_bringToFront_X0 hown hG.1 hP 0 rfl rfl 0 (by decide) (hts (.fieldLink RX0 9 "DirtyTiles$Cache" "tiles" "[J") (by decide +kernel)) (fun _ h9 => h9) rfl dX0_bringToFront_68 ?_
          refine lv_iconst (v := nI 0) hx hb dX0_bringToFront_71 (by decide) ?_
          refine lv_lload_n hx hb dX0_bringToFront_72 rfl (lv_at hl 1 rfl) ?_
          refine g_last hx hb hG hP hD hS 1 1 rfl rfl (k := 0) (by omega) (by decide) dX0_bringToFront_73 (fun H locs hP hD hS => ?_)
          have hP : va_P D vwCl [(h, eCch t (nI (brg L x).length)), (t, eJ cy 6 (vp_updL g 0 x))] H := hP
          have hD : va_D AA [(h, eCch t (nI (brg L x).length)), (t, eJ cy 6 (vp_updL g 0 x))] := hD
          exact hret _ _ _ _ (vp_updL g 0 x) dX0_bringToFront_74 (brg_hC hf hL (fun i hi => by rw [hg i hi]; have : j = 0 := (by omega); rw [this])) (hP.sub [0, 1] rfl) (hD.sub [0, 1] (by decide) rfl) hS
        · skip
          have c_42 : ¬ j ≤ 0 := fun z => c_42 ((nI_leI (a := j) (b := 0) (by omega) (by omega)).mpr z)
          refine lv_aload_n hx hb dX0_bringToFront_45 rfl (lv_at hl 0 rfl) ?_
          refine va_get (D := D) (ci := 0) (v := .ref t) (C := RX0) (T := TX0) (N := 2) hx hb hts iX0_bringToFront_X0 hown hG.1 hP 0 rfl rfl 0 (by decide) (hts (.fieldLink RX0 9 "DirtyTiles$Cache" "tiles" "[J") (by decide +kernel)) (fun _ h9 => h9) rfl dX0_bringToFront_46 ?_
          refine lv_iload hx hb dX0_bringToFront_49 (lv_at hl 3 rfl) ?_
          refine lv_aload_n hx hb dX0_bringToFront_51 rfl (lv_at hl 0 rfl) ?_
          refine va_get (D := D) (ci := 0) (v := .ref t) (C := RX0) (T := TX0) (N := 2) hx hb hts iX0_bringToFront_X0 hown hG.1 hP 0 rfl rfl 0 (by decide) (hts (.fieldLink RX0 9 "DirtyTiles$Cache" "tiles" "[J") (by decide +kernel)) (fun _ h9 => h9) rfl dX0_bringToFront_52 ?_
          refine lv_iload hx hb dX0_bringToFront_55 (lv_at hl 3 rfl) ?_
          refine lv_iconst (v := nI 1) hx hb dX0_bringToFront_57 (by decide) ?_
          refine lv_isub hx hb dX0_bringToFront_58 ?_
          refine g_ti (y := nI (j - 1)) (pk_sub (by omega)) ?_
          refine g_lald hx hb hG hP 1 1 rfl rfl (k := j - 1) (by omega) (by decide) dX0_bringToFront_59 ?_
          refine g_last hx hb hG hP hD hS 1 1 rfl rfl (k := j) (by omega) (by decide) dX0_bringToFront_60 (fun H locs hP hD hS => ?_)
          have hP : va_P D vwCl [(h, eCch t (nI (brg L x).length)), (t, eJ cy 6 (vp_updL g j (g (j - 1))))] H := hP
          have hD : va_D AA [(h, eCch t (nI (brg L x).length)), (t, eJ cy 6 (vp_updL g j (g (j - 1))))] := hD
          refine lv_iinc (v := nI (j - 1)) (lv' := [(4, .int (nI (j - 1))), (0, .ref h), (1, .long x), (3, .int (nI (ixF L x)))]) hx hb dX0_bringToFront_61 hl (k := 3) rfl (g_dec (by omega)) (by decide) rfl (fun ls hl => ?_)
          refine lv_goto (tgt := 40) hx hb dX0_bringToFront_64 (by decide) ?_
          exact ih_40 (j - 1) (vp_updL g j (g (j - 1))) (by omega) (by omega) (brg_step hj (by omega) hg) _ _ _ (hP.sub [0, 1] rfl) (hD.sub [0, 1] (by decide) rfl) hS (lv_sub hl [1, 2, 3, 0] rfl)
    exact loop_40 (((min (ixF L x) 5)) + 1) (min (ixF L x) 5) f (Nat.lt_succ_self _) (Nat.le_refl _) (fun i hi => by rw [if_neg (by omega)]) _ _ _ (hP.sub [0, 1] rfl) (hD.sub [0, 1] (by decide) rfl) hS (lv_sub hl [1, 2, 3, 0] rfl)
  refine lv_iload_n hx hb dX0_bringToFront_6 rfl (lv_at hl 0 rfl) ?_
  refine lv_aload_n hx hb dX0_bringToFront_7 rfl (lv_at hl 1 rfl) ?_
  refine va_get (D := D) (ci := 0) (v := .int (nI L.length)) (C := RX0) (T := TX0) (N := 2) hx hb hts iX0_bringToFront_X0 hown hG.1 hP 0 rfl rfl 1 (by decide) (hts (.fieldLink RX0 15 "DirtyTiles$Cache" "count" "I") (by decide +kernel)) (fun _ h9 => h9) rfl dX0_bringToFront_8 ?_
  refine lv_icmp_ne (tgt := 33) hx hb dX0_bringToFront_11 (by decide) (fun c_11 => ?_) (fun c_11 => ?_)
  · skip
    have c_11 : ¬ (ixF L x) = L.length := fun z => c_11 ((nI_eq (a := (ixF L x)) (b := L.length) (by omega) (by omega)).mpr z)
    exact join_33 L.length (by rw [hb9]; split <;> omega) _ _ _ (hP.sub [0, 1] rfl) (hD.sub [0, 1] (by decide) rfl) hS (lv_sub hl [1, 2, 0] rfl)
  · skip
    have c_11 : (ixF L x) = L.length := (nI_eq (a := (ixF L x)) (b := L.length) (by omega) (by omega)).mp c_11
    refine lv_aload_n hx hb dX0_bringToFront_14 rfl (lv_at hl 1 rfl) ?_
    refine va_get (D := D) (ci := 0) (v := .int (nI L.length)) (C := RX0) (T := TX0) (N := 2) hx hb hts iX0_bringToFront_X0 hown hG.1 hP 0 rfl rfl 1 (by decide) (hts (.fieldLink RX0 15 "DirtyTiles$Cache" "count" "I") (by decide +kernel)) (fun _ h9 => h9) rfl dX0_bringToFront_15 ?_
    refine lv_bipush (v := nI 6) hx hb dX0_bringToFront_18 (by decide) ?_
    refine lv_icmp_ge (tgt := 33) hx hb dX0_bringToFront_20 (by decide) (fun c_20 => ?_) (fun c_20 => ?_)
    · skip
      have c_20 : 6 ≤ L.length := (nI_leI (a := 6) (b := L.length) (by omega) (by omega)).mp c_20
      exact join_33 L.length (by rw [hb9]; split <;> omega) _ _ _ (hP.sub [0, 1] rfl) (hD.sub [0, 1] (by decide) rfl) hS (lv_sub hl [1, 2, 0] rfl)
    · skip
      have c_20 : ¬ 6 ≤ L.length := fun z => c_20 ((nI_leI (a := 6) (b := L.length) (by omega) (by omega)).mpr z)
      refine lv_aload_n hx hb dX0_bringToFront_23 rfl (lv_at hl 1 rfl) ?_
      refine lv_dup hx hb dX0_bringToFront_24 rfl ?_
      refine va_get (D := D) (ci := 0) (v := .int (nI L.length)) (C := RX0) (T := TX0) (N := 2) hx hb hts iX0_bringToFront_X0 hown hG.1 hP 0 rfl rfl 1 (by decide) (hts (.fieldLink RX0 15 "DirtyTiles$Cache" "count" "I") (by decide +kernel)) (fun _ h9 => h9) rfl dX0_bringToFront_25 ?_
      refine lv_iconst (v := nI 1) hx hb dX0_bringToFront_28 (by decide) ?_
      refine lv_iadd hx hb dX0_bringToFront_29 ?_
      refine g_ti (y := nI (L.length + 1)) (nI_add _ _) ?_
      refine va_put (D := D) (ci := 0) (v := .int (nI (L.length + 1))) (ty := .int) (C := RX0) (T := TX0) (N := 2) hx hb hts iX0_bringToFront_X0 tyX0 tyX0_ok nmX0 hown hG.1 hP hD hS 0 rfl rfl 1 (by decide) (hts (.fieldLink RX0 15 "DirtyTiles$Cache" "count" "I") (by decide +kernel)) (fun _ h9 => h9) rfl (by decide +kernel) rfl rfl (Nat.le_of_ble_eq_true rfl) dX0_bringToFront_30 (fun H locs hP hD hS => ?_)
      have hP : va_P D vwCl [(h, eCch t (nI (L.length + 1))), (t, eJ cy 6 f)] H := hP
      have hD : va_D AA [(h, eCch t (nI (L.length + 1))), (t, eJ cy 6 f)] := hD
      exact join_33 (L.length + 1) (by rw [hb9]; split <;> omega) _ _ _ (hP.sub [0, 1] rfl) (hD.sub [0, 1] (by decide) rfl) hS (lv_sub hl [1, 2, 0] rfl)
theorem iX0_hasSameTilesAs_X0 : ∀ w ∈ wsX00, w ∈ wsX0_hasSameTilesAs := by decide +kernel
set_option maxHeartbeats 4000000 in
set_option maxRecDepth 100000 in
theorem c_X0_hasSameTilesAs (l : Launch) (D : va_G) (cy : Nat → ClassId) (h t : Nat) (L : List Int64) (f : Nat → Int64) (h2 t2 : Nat) (K : List Int64) (g : Nat → Int64) (hf : hC L f) (hL : L.length ≤ 6) (hg : hC K g) (hK : K.length ≤ 6) : Met l yX0_hasSameTilesAs wsX0_hasSameTilesAs ({ frames := 0, cells := 0, slots := 0, locals := 0 } : Room) (va_Pc [.ref h, .ref h2] (gR D (gT cy) [(h, eCch t (nI L.length)), (t, eJ cy 6 f), (h2, eCch t2 (nI K.length)), (t2, eJ cy 6 g)])) (vp_Si (fun r9 => r9 = gb (L = K))) 0 0 (fun _ => False) := by
  refine gM_i (cc := cX0_hasSameTilesAs) (maxL := 3) (ty := .boolean) (by decide) rfl (Nat.le_of_ble_eq_true rfl) (fun v hv => by rw [hv]; first | rfl | exact gb_nar _) ?_
  intro pp ee ss mm bw mt cd QQ ls hfx hP hG hret hl
  obtain ⟨hx, hb, hml, hown, hts, hlocks⟩ := hfx
  have hown : ss.vm.findClass RX0 = some mm.cls := hown
  have hl : lv_has ls 3 [(0, .ref h), (1, .ref h2)] := hl
  refine lv_aload_n hx hb dX0_hasSameTilesAs_0 rfl (lv_at hl 0 rfl) ?_
  refine va_get (D := D) (ci := 0) (v := .int (nI L.length)) (C := RX0) (T := TX0) (N := 2) hx hb hts iX0_hasSameTilesAs_X0 hown hG.1 hP 0 rfl rfl 1 (by decide) (hts (.fieldLink RX0 15 "DirtyTiles$Cache" "count" "I") (by decide +kernel)) (fun _ h9 => h9) rfl dX0_hasSameTilesAs_1 ?_
  refine lv_aload_n hx hb dX0_hasSameTilesAs_4 rfl (lv_at hl 1 rfl) ?_
  refine va_get (D := D) (ci := 0) (v := .int (nI K.length)) (C := RX0) (T := TX0) (N := 2) hx hb hts iX0_hasSameTilesAs_X0 hown hG.1 hP 2 rfl rfl 1 (by decide) (hts (.fieldLink RX0 15 "DirtyTiles$Cache" "count" "I") (by decide +kernel)) (fun _ h9 => h9) rfl dX0_hasSameTilesAs_5 ?_
  refine lv_icmp_eq (tgt := 13) hx hb dX0_hasSameTilesAs_8 (by decide) (fun c_8 => ?_) (fun c_8 => ?_)
  · skip
    have c_8 : L.length = K.length := (nI_eq (a := L.length) (b := K.length) (by omega) (by omega)).mp c_8
    refine lv_iconst (v := nI 0) hx hb dX0_hasSameTilesAs_13 (by decide) ?_
    refine lv_istore_n (lv' := [(2, .int (nI 0)), (0, .ref h), (1, .ref h2)]) hx hb dX0_hasSameTilesAs_14 rfl hl (by decide) rfl (fun ls hl => ?_)
    have loop_15 : ∀ (n9 : Nat) (i : Nat), L.length - i < n9 → (i ≤ L.length) → (∀ j, j < i → f j = g j) → ∀ (ls : Array Slot), lv_has ls 3 [(0, .ref h), (1, .ref h2), (2, .int (nI i))] → W pp l ee ({ frames := 0, cells := 0, slots := 0, locals := 0 } : Room) ss mm ([.ref h, .ref h2] : List Value).toArray bw mt cd ss.heap [] 0 0 QQ (F0 mm 15 ls []) := by
      intro n9
      induction n9 with
      | zero => intro i h9; exact absurd h9 (Nat.not_lt_zero _)
      | succ n9 ih_15 =>
        intro i hm_15 hi hs ls hl
        refine lv_iload_n hx hb dX0_hasSameTilesAs_15 rfl (lv_at hl 2 rfl) ?_
        refine lv_aload_n hx hb dX0_hasSameTilesAs_16 rfl (lv_at hl 0 rfl) ?_
        refine va_get (D := D) (ci := 0) (v := .int (nI L.length)) (C := RX0) (T := TX0) (N := 2) hx hb hts iX0_hasSameTilesAs_X0 hown hG.1 hP 0 rfl rfl 1 (by decide) (hts (.fieldLink RX0 15 "DirtyTiles$Cache" "count" "I") (by decide +kernel)) (fun _ h9 => h9) rfl dX0_hasSameTilesAs_17 ?_
        refine lv_icmp_ge (tgt := 47) hx hb dX0_hasSameTilesAs_20 (by decide) (fun c_20 => ?_) (fun c_20 => ?_)
        · skip
          have c_20 : L.length ≤ i := (nI_leI (a := L.length) (b := i) (by omega) (by omega)).mp c_20
          refine lv_iconst (v := nI 1) hx hb dX0_hasSameTilesAs_47 (by decide) ?_
          exact hret _ _ _ dX0_hasSameTilesAs_48 ((gb_t (hC_eq hf hg c_8 (fun j hj => hs j (by omega)))).symm)
        · skip
          have c_20 : ¬ L.length ≤ i := fun z => c_20 ((nI_leI (a := L.length) (b := i) (by omega) (by omega)).mpr z)
          refine lv_aload_n hx hb dX0_hasSameTilesAs_23 rfl (lv_at hl 0 rfl) ?_
          refine va_get (D := D) (ci := 0) (v := .ref t) (C := RX0) (T := TX0) (N := 2) hx hb hts iX0_hasSameTilesAs_X0 hown hG.1 hP 0 rfl rfl 0 (by decide) (hts (.fieldLink RX0 9 "DirtyTiles$Cache" "tiles" "[J") (by decide +kernel)) (fun _ h9 => h9) rfl dX0_hasSameTilesAs_24 ?_
          refine lv_iload_n hx hb dX0_hasSameTilesAs_27 rfl (lv_at hl 2 rfl) ?_
          refine g_lald hx hb hG hP 1 1 rfl rfl (k := i) (by omega) (by decide) dX0_hasSameTilesAs_28 ?_
          refine lv_aload_n hx hb dX0_hasSameTilesAs_29 rfl (lv_at hl 1 rfl) ?_
          refine va_get (D := D) (ci := 0) (v := .ref t2) (C := RX0) (T := TX0) (N := 2) hx hb hts iX0_hasSameTilesAs_X0 hown hG.1 hP 2 rfl rfl 0 (by decide) (hts (.fieldLink RX0 9 "DirtyTiles$Cache" "tiles" "[J") (by decide +kernel)) (fun _ h9 => h9) rfl dX0_hasSameTilesAs_30 ?_
          refine lv_iload_n hx hb dX0_hasSameTilesAs_33 rfl (lv_at hl 2 rfl) ?_
          refine g_lald hx hb hG hP 3 1 rfl rfl (k := i) (by omega) (by decide) dX0_hasSameTilesAs_34 ?_
          refine W.lcmp hx hb dX0_hasSameTilesAs_35 ?_
          refine lv_if_eq (tgt := 41) hx hb dX0_hasSameTilesAs_36 (by decide) (fun c_36 => ?_) (fun c_36 => ?_)
          · skip
            have c_36 : f i = g i := g_cmp0.mp c_36
            refine lv_iinc (v := nI (i + 1)) (lv' := [(2, .int (nI (i + 1))), (0, .ref h), (1, .ref h2)]) hx hb dX0_hasSameTilesAs_41 hl (k := 2) rfl (nI_1 _) (by decide) rfl (fun ls hl => ?_)
            refine lv_goto (tgt := 15) hx hb dX0_hasSameTilesAs_44 (by decide) ?_
            exact ih_15 (i + 1) (by omega) (by omega) (lt_s hs c_36) _ (lv_sub hl [1, 2, 0] rfl)
          · skip
            have c_36 : ¬ f i = g i := fun z => c_36 (g_cmp0.mpr z)
            refine lv_iconst (v := nI 0) hx hb dX0_hasSameTilesAs_39 (by decide) ?_
            exact hret _ _ _ dX0_hasSameTilesAs_40 ((gb_f (hC_ne hf hg (by omega) c_36)).symm)
    exact loop_15 ((L.length - 0) + 1) 0 (Nat.lt_succ_self _) (by omega) (fun j hj => absurd hj (Nat.not_lt_zero j)) _ (lv_sub hl [1, 2, 0] rfl)
  · skip
    have c_8 : ¬ L.length = K.length := fun z => c_8 ((nI_eq (a := L.length) (b := K.length) (by omega) (by omega)).mpr z)
    refine lv_iconst (v := nI 0) hx hb dX0_hasSameTilesAs_11 (by decide) ?_
    exact hret _ _ _ dX0_hasSameTilesAs_12 ((gb_f (fun e => c_8 (by rw [e]))).symm)
