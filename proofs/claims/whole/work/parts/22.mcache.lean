/-! the model: caches and ways -/
/-! the model: caches and ways -/
theorem all_succ {p : Nat → Prop} {i : Nat} : (∀ j, j < i + 1 → p j) ↔ (∀ j, j < i → p j) ∧ p i :=
  ⟨fun h => ⟨fun j hj => h j (by omega), h i (by omega)⟩, fun h j hj => by
    by_cases e : j = i
    · exact e ▸ h.2
    · exact h.1 j (by omega)⟩
theorem getD_some {C : List Int64} {p : Nat} (h : p < C.length) : C[p]? = some (C.getD p 0) := by
  rw [List.getD_eq_getElem?_getD, List.getElem?_eq_getElem h]; rfl
theorem ix_getD {C : List Int64} {x : Int64} {p : Nat} (hp : p < C.length) (hno : ∀ j, j < p → C.getD j 0 ≠ x) (h : C.getD p 0 = x) : ixF C x = p :=
  ixF_at C x p (by omega) (fun j hj e => hno j hj (Option.some.inj ((getD_some (by omega)).symm.trans e))) (fun hl => by rw [getD_some hl, h])
theorem ix_none {C : List Int64} {x : Int64} (hno : ∀ j, j < C.length → C.getD j 0 ≠ x) : ixF C x = C.length :=
  ixF_at C x _ (Nat.le_refl _) (fun j hj e => hno j hj (Option.some.inj ((getD_some hj).symm.trans e))) (fun hl => absurd hl (Nat.lt_irrefl _))
def fnd (C : List Int64) (x : Int64) : Int32 := if ixF C x < C.length then nI (ixF C x) else -1
theorem fnd_eq {C : List Int64} {x : Int64} (hC : C.length ≤ 6) (h : fnd C x = -1) : ixF C x = C.length := by
  have h1 := ixF_le C x
  unfold fnd at h
  by_cases e : ixF C x < C.length
  · rw [if_pos e] at h
    have := congrArg Int32.toInt h
    rw [nI_toInt (by omega)] at this
    have e9 : (-1 : Int32).toInt = -1 := rfl
    omega
  · omega
theorem fnd_ne {C : List Int64} {x : Int64} (h : ¬ fnd C x = -1) : ixF C x < C.length ∧ fnd C x = nI (ixF C x) := by
  unfold fnd at h ⊢
  by_cases e : ixF C x < C.length
  · rw [if_pos e]; exact ⟨e, rfl⟩
  · rw [if_neg e] at h; exact absurd rfl h
theorem bet_99 {b w : Nat} (h : b % 100 ≤ 99) : bet b w 99 = b := if_neg (by omega)
theorem cw_bet (u : Nat → Nat) (i : Nat) (hu : ∀ c, u c ≤ 99) : 100 * (cwF u (i + 1)).1 + (cwF u (i + 1)).2 = bet (100 * (cwF u i).1 + (cwF u i).2) i (u i) := by
  have h := (cwF_le u i).2
  have e : (100 * (cwF u i).1 + (cwF u i).2) % 100 = (cwF u i).2 := by omega
  unfold bet
  rw [e]
  show 100 * (if u i < (cwF u i).2 then (i, u i) else cwF u i).1 + (if u i < (cwF u i).2 then (i, u i) else cwF u i).2 = _
  split <;> rfl
theorem wayO_bet (C : List Int64) (x : Int64) : wayO C x = bet (bet (bet (bet (bet 99 0 (unW C x 0)) 1 (unW C x 1)) 2 (unW C x 2)) 3 (unW C x 3)) 4 (unW C x 4) := by
  have hu := unW_le C x
  unfold wayO
  rw [cw_bet _ 4 hu, cw_bet _ 3 hu, cw_bet _ 2 hu, cw_bet _ 1 hu, cw_bet _ 0 hu]
  rfl
def bE (b b' : Nat) : Bool := Nat.beq b b' || (Nat.beq b 99 && Nat.beq b' 499)
theorem bE_fin {b b' r : Nat} (h : bE b b' = true) : bet (bet b 3 r) 4 17 = bet (bet b' 3 r) 4 17 := by
  unfold bE at h
  rw [Bool.or_eq_true, Bool.and_eq_true] at h
  rcases h with h | ⟨h1, h2⟩
  · rw [Nat.eq_of_beq_eq_true h]
  · rw [Nat.eq_of_beq_eq_true h1, Nat.eq_of_beq_eq_true h2]
    unfold bet
    by_cases e : r < 99
    · rw [if_pos (show r < 99 % 100 by omega), if_pos (show r < 499 % 100 by omega)]
    · rw [if_neg (show ¬ r < 99 % 100 by omega), if_neg (show ¬ r < 499 % 100 by omega)]; rfl
theorem way_fin {C : List Int64} {x : Int64} {X : Nat} (a b c : Nat) (h0 : unW C x 0 = a) (h1 : unW C x 1 = b) (h2 : ubc (nCol x) = c) (hE : bE (bet (bet (bet 99 0 a) 1 b) 2 c) X = true) : nI (bet (bet X 3 (1 + 2 * nRun x)) 4 17) = nI (wayO C x) := by
  rw [wayO_bet, h0, h1, show unW C x 2 = c from h2, show unW C x 3 = 1 + 2 * nRun x from rfl, show unW C x 4 = 17 from rfl, bE_fin hE]
theorem ubc_no {n : Nat} (h : ¬ (2 ≤ n ∧ n ≤ 4)) : ubc n = 99 := by
  unfold ubc
  rw [if_neg (by omega), if_neg (by omega), if_neg (by omega)]
theorem ubc_2 {n : Nat} (h : n = 2) : ubc n = 10 := by subst h; rfl
theorem ubc_3 {n : Nat} (h : n = 3) : ubc n = 15 := by subst h; rfl
theorem ubc_4 {n : Nat} (h : n = 4) : ubc n = 16 := by subst h; rfl
theorem bet_lt {b w u : Nat} (hb : b < 1000) (hw : w < 9) (hu : u < 100) : bet b w u < 1000 := by
  unfold bet; split <;> omega
/-- the cells of a cache, when a tile came to the front -/
theorem brg_get {C : List Int64} {x : Int64} {m : Nat} (hm : m + 1 < (brg C x).length) (hC : C.length ≤ 6) : (brg C x).getD (m + 1) 0 = if m < ixF C x then C.getD m 0 else C.getD (m + 1) 0 := by
  have hp := ixF_le C x
  have hl : m < 5 := by have := brg_le C x; omega
  rw [List.getD_eq_getElem?_getD, List.getD_eq_getElem?_getD, List.getD_eq_getElem?_getD]
  unfold brg
  rw [List.getElem?_cons_succ, List.getElem?_take, if_pos hl, List.getElem?_eraseIdx]
  split <;> rfl
theorem brg_cells {C : List Int64} {x : Int64} {c : Nat} {ca f2 tl9 : Nat → Int32} (hc : c < 2) (h : hCo C ca c) (hC : C.length ≤ 6) (ht : hT x tl9)
    (hf : ∀ j, f2 j = if 112 * c ≤ j ∧ j < 112 * c + 16 then tl9 (j - 112 * c) else if 112 * c + 16 ≤ j ∧ j < 112 * c + 16 * ixF C x + 16 then ca (j - 16) else ca j) : hCo (brg C x) f2 c ∧ kO 112 c ca f2 := by
  have hp := ixF_le C x
  constructor
  · intro p k hpl hk
    rw [hf]
    cases p with
    | zero =>
      rw [if_pos ⟨by omega, by omega⟩, show 112 * c + 16 * 0 + k - 112 * c = k by omega, ht k hk]
      rfl
    | succ m =>
      have hb := brg_len (L := C) (x := x) hC
      have hbl := brg_le C x
      rw [brg_get hpl hC, if_neg (by omega)]
      by_cases e : m < ixF C x
      · rw [if_pos e, if_pos ⟨by omega, by omega⟩, show 112 * c + 16 * (m + 1) + k - 16 = 112 * c + 16 * m + k by omega]
        exact h m k (by omega) hk
      · rw [if_neg e, if_neg (by omega)]
        refine h (m + 1) k ?_ hk
        split at hb <;> omega
  · intro j hj
    rw [hf j, if_neg (by omega), if_neg (by omega)]
theorem iX4_find_X4 : ∀ w ∈ wsX40, w ∈ wsX4_find := by decide +kernel
set_option maxHeartbeats 4000000 in
set_option maxRecDepth 100000 in
theorem c_X4_find (l : Launch) (D : va_G) (cy : Nat → ClassId) (q : Nat → Nat) (T U : Int32) (ca zs tl9 : Nat → Int32) (C : List Int64) (x : Int64) (c : Nat) (hc : c < 2) (hca : hCo C ca c) (hsz : zs c = nI C.length) (hC : C.length ≤ 6) (hx9 : hT x tl9) : Met l yX4_find wsX4_find ({ frames := 0, cells := 0, slots := 0, locals := 0 } : Room) (va_Pc [.ref (q 0), .int (nI c)] (gR D (gT cy) [(q 0, eMod T q U), (q 5, eI cy 224 ca), (q 6, eI cy 2 zs), (q 16, eI cy 16 tl9)])) (vp_Si (fun r9 => r9 = fnd C x)) 0 0 (fun _ => False) := by
  refine gM_i (cc := cX4_find) (maxL := 5) (ty := .int) (by decide) rfl (Nat.le_of_ble_eq_true rfl) (fun v hv => by rw [hv]; first | rfl | exact gb_nar _) ?_
  intro pp ee ss mm bw mt cd QQ ls hfx hP hG hret hl
  obtain ⟨hx, hb, hml, hown, hts, hlocks⟩ := hfx
  have hown : ss.vm.findClass RX4 = some mm.cls := hown
  have hl : lv_has ls 5 [(0, .ref (q 0)), (1, .int (nI c))] := hl
  refine lv_iconst (v := nI 0) hx hb dX4_find_0 (by decide) ?_
  refine lv_istore_n (lv' := [(2, .int (nI 0)), (0, .ref (q 0)), (1, .int (nI c))]) hx hb dX4_find_1 rfl hl (by decide) rfl (fun ls hl => ?_)
  have loop_2 : ∀ (n9 : Nat) (p : Nat), C.length - p < n9 → (p ≤ C.length) → (∀ j, j < p → C.getD j 0 ≠ x) → ∀ (ls : Array Slot), lv_has ls 5 [(0, .ref (q 0)), (1, .int (nI c)), (2, .int (nI p))] → W pp l ee ({ frames := 0, cells := 0, slots := 0, locals := 0 } : Room) ss mm ([.ref (q 0), .int (nI c)] : List Value).toArray bw mt cd ss.heap [] 0 0 QQ (F0 mm 2 ls []) := by
    intro n9
    induction n9 with
    | zero => intro p h9; exact absurd h9 (Nat.not_lt_zero _)
    | succ n9 ih_2 =>
      intro p hm_2 hp9 hno ls hl
      refine lv_iload_n hx hb dX4_find_2 rfl (lv_at hl 2 rfl) ?_
      refine lv_aload_n hx hb dX4_find_3 rfl (lv_at hl 0 rfl) ?_
      refine va_get (D := D) (ci := 4) (v := .ref (q 6)) (C := RX4) (T := TX4) (N := 17) hx hb hts iX4_find_X4 hown hG.1 hP 0 rfl rfl 6 (by decide) (hts (.fieldLink RX4 26 "DirtyTilesModel" "sizes" "[I") (by decide +kernel)) (fun _ h9 => h9) rfl dX4_find_4 ?_
      refine lv_iload_n hx hb dX4_find_7 rfl (lv_at hl 1 rfl) ?_
      refine g_iald hx hb hG hP 2 0 rfl rfl (k := c) (by omega) (by decide) dX4_find_8 ?_
      refine g_ti (y := nI C.length) (hsz) ?_
      refine lv_icmp_ge (tgt := 79) hx hb dX4_find_9 (by decide) (fun c_9 => ?_) (fun c_9 => ?_)
      · skip
        have c_9 : C.length ≤ p := (nI_leI (a := C.length) (b := p) (by omega) (by omega)).mp c_9
        refine lv_iconst (v := (-1)) hx hb dX4_find_79 (by decide) ?_
        exact hret _ _ _ dX4_find_80 (by have e8 := ix_none (fun j hj => hno j (by omega)); unfold fnd; rw [e8, if_neg (Nat.lt_irrefl _)])
      · skip
        have c_9 : ¬ C.length ≤ p := fun z => c_9 ((nI_leI (a := C.length) (b := p) (by omega) (by omega)).mpr z)
        refine lv_iconst (v := nI 1) hx hb dX4_find_12 (by decide) ?_
        refine g_ti (y := gb (True)) ((gb_t trivial).symm) ?_
        refine lv_istore_n (lv' := [(3, .int (gb (True))), (0, .ref (q 0)), (1, .int (nI c)), (2, .int (nI p))]) hx hb dX4_find_13 rfl hl (by decide) rfl (fun ls hl => ?_)
        refine lv_iconst (v := nI 0) hx hb dX4_find_14 (by decide) ?_
        refine lv_istore (lv' := [(4, .int (nI 0)), (3, .int (gb (True))), (0, .ref (q 0)), (1, .int (nI c)), (2, .int (nI p))]) hx hb dX4_find_15 hl (by decide) rfl (fun ls hl => ?_)
        have loop_17 : ∀ (n9 : Nat) (k : Nat) (P : Prop), 16 - k < n9 → (k ≤ 16) → (P ↔ ∀ j, j < k → cel (C.getD p 0) j = cel x j) → ∀ (ls : Array Slot), lv_has ls 5 [(0, .ref (q 0)), (1, .int (nI c)), (2, .int (nI p)), (3, .int (gb (P))), (4, .int (nI k))] → W pp l ee ({ frames := 0, cells := 0, slots := 0, locals := 0 } : Room) ss mm ([.ref (q 0), .int (nI c)] : List Value).toArray bw mt cd ss.heap [] 0 0 QQ (F0 mm 17 ls []) := by
          intro n9
          induction n9 with
          | zero => intro k P h9; exact absurd h9 (Nat.not_lt_zero _)
          | succ n9 ih_17 =>
            intro k P hm_17 hk hP9 ls hl
            refine lv_iload hx hb dX4_find_17 (lv_at hl 4 rfl) ?_
            refine lv_bipush (v := nI 16) hx hb dX4_find_19 (by decide) ?_
            refine lv_icmp_ge (tgt := 67) hx hb dX4_find_21 (by decide) (fun c_21 => ?_) (fun c_21 => ?_)
            · skip
              have c_21 : 16 ≤ k := (nI_leI (a := 16) (b := k) (by decide) (by clear hP9; omega)).mp c_21
              refine lv_iload_n hx hb dX4_find_67 rfl (lv_at hl 3 rfl) ?_
              refine lv_if_eq (tgt := 73) hx hb dX4_find_68 (by decide) (fun c_68 => ?_) (fun c_68 => ?_)
              · skip
                have c_68 : ¬ (P) := gb_eq0.mp c_68
                refine lv_iinc (v := nI (p + 1)) (lv' := [(2, .int (nI (p + 1))), (0, .ref (q 0)), (1, .int (nI c)), (3, .int (gb (P))), (4, .int (nI k))]) hx hb dX4_find_73 hl (k := 2) rfl (nI_1 _) (by decide) rfl (fun ls hl => ?_)
                refine lv_goto (tgt := 2) hx hb dX4_find_76 (by decide) ?_
                exact ih_2 (p + 1) (by omega) (by omega) (lt_s hno (fun e => c_68 (hP9.mpr (fun j _ => by rw [e])))) _ (lv_sub hl [1, 2, 0] rfl)
              · skip
                have c_68 : P := gb_ne0.mp c_68
                refine lv_iload_n hx hb dX4_find_71 rfl (lv_at hl 2 rfl) ?_
                exact hret _ _ _ dX4_find_72 (by have e9 : C.getD p 0 = x := cel_ext (fun j hj => hP9.mp c_68 j (by clear hP9; omega)); have e8 := ix_getD (by clear hP9; omega) hno e9; unfold fnd; rw [e8, if_pos (by clear hP9; omega)])
            · skip
              have c_21 : ¬ 16 ≤ k := fun z => c_21 ((nI_leI (a := 16) (b := k) (by decide) (by clear hP9; omega)).mpr z)
              refine lv_iload_n hx hb dX4_find_24 rfl (lv_at hl 3 rfl) ?_
              refine lv_if_eq (tgt := 59) hx hb dX4_find_25 (by decide) (fun c_25 => ?_) (fun c_25 => ?_)
              · skip
                have c_25 : ¬ (P) := gb_eq0.mp c_25
                refine lv_iconst (v := nI 0) hx hb dX4_find_59 (by decide) ?_
                refine g_ti (y := gb (False)) ((gb_f id).symm) ?_
                refine lv_istore_n (lv' := [(3, .int (gb (False))), (0, .ref (q 0)), (1, .int (nI c)), (2, .int (nI p)), (4, .int (nI k))]) hx hb dX4_find_60 rfl hl (by decide) rfl (fun ls hl => ?_)
                refine lv_iinc (v := nI (k + 1)) (lv' := [(4, .int (nI (k + 1))), (3, .int (gb (False))), (0, .ref (q 0)), (1, .int (nI c)), (2, .int (nI p))]) hx hb dX4_find_61 hl (k := 4) rfl (nI_1 _) (by decide) rfl (fun ls hl => ?_)
                refine lv_goto (tgt := 17) hx hb dX4_find_64 (by decide) ?_
                exact ih_17 (k + 1) False (by clear hP9; omega) (by clear hP9; omega) (by rw [all_succ, ← hP9]; first | exact iff_of_false id (fun z => absurd z.1 (by assumption)) | exact iff_of_true trivial ⟨by assumption, by assumption⟩ | exact iff_of_false id (fun z => absurd z.2 (by assumption))) _ (lv_sub hl [2, 3, 4, 1, 0] rfl)
              · skip
                have c_25 : P := gb_ne0.mp c_25
                refine lv_aload_n hx hb dX4_find_28 rfl (lv_at hl 0 rfl) ?_
                refine va_get (D := D) (ci := 4) (v := .ref (q 5)) (C := RX4) (T := TX4) (N := 17) hx hb hts iX4_find_X4 hown hG.1 hP 0 rfl rfl 5 (by decide) (hts (.fieldLink RX4 23 "DirtyTilesModel" "caches" "[I") (by decide +kernel)) (fun _ h9 => h9) rfl dX4_find_29 ?_
                refine lv_bipush (v := nI 112) hx hb dX4_find_32 (by decide) ?_
                refine lv_iload_n hx hb dX4_find_34 rfl (lv_at hl 1 rfl) ?_
                refine lv_imul hx hb dX4_find_35 ?_
                refine g_ti (y := nI (112 * c)) (pk_mul _ _) ?_
                refine lv_bipush (v := nI 16) hx hb dX4_find_36 (by decide) ?_
                refine lv_iload_n hx hb dX4_find_38 rfl (lv_at hl 2 rfl) ?_
                refine lv_imul hx hb dX4_find_39 ?_
                refine g_ti (y := nI (16 * p)) (pk_mul _ _) ?_
                refine lv_iadd hx hb dX4_find_40 ?_
                refine g_ti (y := nI ((112 * c) + (16 * p))) (nI_add _ _) ?_
                refine lv_iload hx hb dX4_find_41 (lv_at hl 4 rfl) ?_
                refine lv_iadd hx hb dX4_find_43 ?_
                refine g_ti (y := nI (((112 * c) + (16 * p)) + k)) (nI_add _ _) ?_
                refine g_iald hx hb hG hP 1 0 rfl rfl (k := ((112 * c) + (16 * p)) + k) (by clear hP9; omega) (by decide) dX4_find_44 ?_
                refine g_ti (y := nI (cel (C.getD p 0) k)) (hca p k (by clear hP9; omega) (by clear hP9; omega)) ?_
                refine lv_aload_n hx hb dX4_find_45 rfl (lv_at hl 0 rfl) ?_
                refine va_get (D := D) (ci := 4) (v := .ref (q 16)) (C := RX4) (T := TX4) (N := 17) hx hb hts iX4_find_X4 hown hG.1 hP 0 rfl rfl 16 (by decide) (hts (.fieldLink RX4 53 "DirtyTilesModel" "tile" "[I") (by decide +kernel)) (fun _ h9 => h9) rfl dX4_find_46 ?_
                refine lv_iload hx hb dX4_find_49 (lv_at hl 4 rfl) ?_
                refine g_iald hx hb hG hP 3 0 rfl rfl (k := k) (by clear hP9; omega) (by decide) dX4_find_51 ?_
                refine g_ti (y := nI (cel x k)) (hx9 k (by clear hP9; omega)) ?_
                refine lv_icmp_ne (tgt := 59) hx hb dX4_find_52 (by decide) (fun c_52 => ?_) (fun c_52 => ?_)
                · skip
                  have c_52 : ¬ (cel (C.getD p 0) k) = (cel x k) := fun z => c_52 ((nI_eq (a := (cel (C.getD p 0) k)) (b := (cel x k)) (Nat.lt_trans (cel_lt _ _) (by decide)) (Nat.lt_trans (cel_lt _ _) (by decide))).mpr z)
                  refine lv_iconst (v := nI 0) hx hb dX4_find_59 (by decide) ?_
                  refine g_ti (y := gb (False)) ((gb_f id).symm) ?_
                  refine lv_istore_n (lv' := [(3, .int (gb (False))), (0, .ref (q 0)), (1, .int (nI c)), (2, .int (nI p)), (4, .int (nI k))]) hx hb dX4_find_60 rfl hl (by decide) rfl (fun ls hl => ?_)
                  refine lv_iinc (v := nI (k + 1)) (lv' := [(4, .int (nI (k + 1))), (3, .int (gb (False))), (0, .ref (q 0)), (1, .int (nI c)), (2, .int (nI p))]) hx hb dX4_find_61 hl (k := 4) rfl (nI_1 _) (by decide) rfl (fun ls hl => ?_)
                  refine lv_goto (tgt := 17) hx hb dX4_find_64 (by decide) ?_
                  exact ih_17 (k + 1) False (by clear hP9; omega) (by clear hP9; omega) (by rw [all_succ, ← hP9]; first | exact iff_of_false id (fun z => absurd z.1 (by assumption)) | exact iff_of_true trivial ⟨by assumption, by assumption⟩ | exact iff_of_false id (fun z => absurd z.2 (by assumption))) _ (lv_sub hl [2, 3, 4, 1, 0] rfl)
                · skip
                  have c_52 : (cel (C.getD p 0) k) = (cel x k) := (nI_eq (a := (cel (C.getD p 0) k)) (b := (cel x k)) (Nat.lt_trans (cel_lt _ _) (by decide)) (Nat.lt_trans (cel_lt _ _) (by decide))).mp c_52
                  refine lv_iconst (v := nI 1) hx hb dX4_find_55 (by decide) ?_
                  refine g_ti (y := gb (True)) ((gb_t trivial).symm) ?_
                  refine lv_goto (tgt := 60) hx hb dX4_find_56 (by decide) ?_
                  refine lv_istore_n (lv' := [(3, .int (gb (True))), (0, .ref (q 0)), (1, .int (nI c)), (2, .int (nI p)), (4, .int (nI k))]) hx hb dX4_find_60 rfl hl (by decide) rfl (fun ls hl => ?_)
                  refine lv_iinc (v := nI (k + 1)) (lv' := [(4, .int (nI (k + 1))), (3, .int (gb (True))), (0, .ref (q 0)), (1, .int (nI c)), (2, .int (nI p))]) hx hb dX4_find_61 hl (k := 4) rfl (nI_1 _) (by decide) rfl (fun ls hl => ?_)
                  refine lv_goto (tgt := 17) hx hb dX4_find_64 (by decide) ?_
                  exact ih_17 (k + 1) True (by clear hP9; omega) (by clear hP9; omega) (by rw [all_succ, ← hP9]; first | exact iff_of_false id (fun z => absurd z.1 (by assumption)) | exact iff_of_true trivial ⟨by assumption, by assumption⟩ | exact iff_of_false id (fun z => absurd z.2 (by assumption))) _ (lv_sub hl [2, 3, 4, 1, 0] rfl)
        exact loop_17 ((16 - 0) + 1) 0 True (Nat.lt_succ_self _) (by omega) ⟨fun _ j hj => absurd hj (Nat.not_lt_zero j), fun _ => trivial⟩ _ (lv_sub hl [2, 3, 4, 1, 0] rfl)
  exact loop_2 ((C.length - 0) + 1) 0 (Nat.lt_succ_self _) (by omega) (fun j hj => absurd hj (Nat.not_lt_zero j)) _ (lv_sub hl [1, 2, 0] rfl)
theorem iX4_findOwn_X4 : ∀ w ∈ wsX40, w ∈ wsX4_findOwn := by decide +kernel
set_option maxHeartbeats 4000000 in
set_option maxRecDepth 100000 in
theorem c_X4_findOwn (l : Launch) (D : va_G) (cy : Nat → ClassId) (q : Nat → Nat) (T U : Int32) (ca zs tl9 : Nat → Int32) (C : List Int64) (x : Int64) (c : Nat) (hc : c < 2) (hca : hCo C ca c) (hsz : zs c = nI C.length) (hC : C.length ≤ 6) (hx9 : hT x tl9) : Met l yX4_findOwn wsX4_findOwn ({ frames := 0, cells := 0, slots := 0, locals := 0 } : Room) (va_Pc [.ref (q 0), .int (nI c)] (gR D (gT cy) [(q 0, eMod T q U), (q 7, eI cy 224 ca), (q 8, eI cy 2 zs), (q 16, eI cy 16 tl9)])) (vp_Si (fun r9 => r9 = fnd C x)) 0 0 (fun _ => False) := by
  refine gM_i (cc := cX4_findOwn) (maxL := 5) (ty := .int) (by decide) rfl (Nat.le_of_ble_eq_true rfl) (fun v hv => by rw [hv]; first | rfl | exact gb_nar _) ?_
  intro pp ee ss mm bw mt cd QQ ls hfx hP hG hret hl
  obtain ⟨hx, hb, hml, hown, hts, hlocks⟩ := hfx
  have hown : ss.vm.findClass RX4 = some mm.cls := hown
  have hl : lv_has ls 5 [(0, .ref (q 0)), (1, .int (nI c))] := hl
  refine lv_iconst (v := nI 0) hx hb dX4_findOwn_0 (by decide) ?_
  refine lv_istore_n (lv' := [(2, .int (nI 0)), (0, .ref (q 0)), (1, .int (nI c))]) hx hb dX4_findOwn_1 rfl hl (by decide) rfl (fun ls hl => ?_)
  have loop_2 : ∀ (n9 : Nat) (p : Nat), C.length - p < n9 → (p ≤ C.length) → (∀ j, j < p → C.getD j 0 ≠ x) → ∀ (ls : Array Slot), lv_has ls 5 [(0, .ref (q 0)), (1, .int (nI c)), (2, .int (nI p))] → W pp l ee ({ frames := 0, cells := 0, slots := 0, locals := 0 } : Room) ss mm ([.ref (q 0), .int (nI c)] : List Value).toArray bw mt cd ss.heap [] 0 0 QQ (F0 mm 2 ls []) := by
    intro n9
    induction n9 with
    | zero => intro p h9; exact absurd h9 (Nat.not_lt_zero _)
    | succ n9 ih_2 =>
      intro p hm_2 hp9 hno ls hl
      refine lv_iload_n hx hb dX4_findOwn_2 rfl (lv_at hl 2 rfl) ?_
      refine lv_aload_n hx hb dX4_findOwn_3 rfl (lv_at hl 0 rfl) ?_
      refine va_get (D := D) (ci := 4) (v := .ref (q 8)) (C := RX4) (T := TX4) (N := 17) hx hb hts iX4_findOwn_X4 hown hG.1 hP 0 rfl rfl 8 (by decide) (hts (.fieldLink RX4 32 "DirtyTilesModel" "ownSizes" "[I") (by decide +kernel)) (fun _ h9 => h9) rfl dX4_findOwn_4 ?_
      refine lv_iload_n hx hb dX4_findOwn_7 rfl (lv_at hl 1 rfl) ?_
      refine g_iald hx hb hG hP 2 0 rfl rfl (k := c) (by omega) (by decide) dX4_findOwn_8 ?_
      refine g_ti (y := nI C.length) (hsz) ?_
      refine lv_icmp_ge (tgt := 79) hx hb dX4_findOwn_9 (by decide) (fun c_9 => ?_) (fun c_9 => ?_)
      · skip
        have c_9 : C.length ≤ p := (nI_leI (a := C.length) (b := p) (by omega) (by omega)).mp c_9
        refine lv_iconst (v := (-1)) hx hb dX4_findOwn_79 (by decide) ?_
        exact hret _ _ _ dX4_findOwn_80 (by have e8 := ix_none (fun j hj => hno j (by omega)); unfold fnd; rw [e8, if_neg (Nat.lt_irrefl _)])
      · skip
        have c_9 : ¬ C.length ≤ p := fun z => c_9 ((nI_leI (a := C.length) (b := p) (by omega) (by omega)).mpr z)
        refine lv_iconst (v := nI 1) hx hb dX4_findOwn_12 (by decide) ?_
        refine g_ti (y := gb (True)) ((gb_t trivial).symm) ?_
        refine lv_istore_n (lv' := [(3, .int (gb (True))), (0, .ref (q 0)), (1, .int (nI c)), (2, .int (nI p))]) hx hb dX4_findOwn_13 rfl hl (by decide) rfl (fun ls hl => ?_)
        refine lv_iconst (v := nI 0) hx hb dX4_findOwn_14 (by decide) ?_
        refine lv_istore (lv' := [(4, .int (nI 0)), (3, .int (gb (True))), (0, .ref (q 0)), (1, .int (nI c)), (2, .int (nI p))]) hx hb dX4_findOwn_15 hl (by decide) rfl (fun ls hl => ?_)
        have loop_17 : ∀ (n9 : Nat) (k : Nat) (P : Prop), 16 - k < n9 → (k ≤ 16) → (P ↔ ∀ j, j < k → cel (C.getD p 0) j = cel x j) → ∀ (ls : Array Slot), lv_has ls 5 [(0, .ref (q 0)), (1, .int (nI c)), (2, .int (nI p)), (3, .int (gb (P))), (4, .int (nI k))] → W pp l ee ({ frames := 0, cells := 0, slots := 0, locals := 0 } : Room) ss mm ([.ref (q 0), .int (nI c)] : List Value).toArray bw mt cd ss.heap [] 0 0 QQ (F0 mm 17 ls []) := by
          intro n9
          induction n9 with
          | zero => intro k P h9; exact absurd h9 (Nat.not_lt_zero _)
          | succ n9 ih_17 =>
            intro k P hm_17 hk hP9 ls hl
            refine lv_iload hx hb dX4_findOwn_17 (lv_at hl 4 rfl) ?_
            refine lv_bipush (v := nI 16) hx hb dX4_findOwn_19 (by decide) ?_
            refine lv_icmp_ge (tgt := 67) hx hb dX4_findOwn_21 (by decide) (fun c_21 => ?_) (fun c_21 => ?_)
            · skip
              have c_21 : 16 ≤ k := (nI_leI (a := 16) (b := k) (by decide) (by clear hP9; omega)).mp c_21
              refine lv_iload_n hx hb dX4_findOwn_67 rfl (lv_at hl 3 rfl) ?_
              refine lv_if_eq (tgt := 73) hx hb dX4_findOwn_68 (by decide) (fun c_68 => ?_) (fun c_68 => ?_)
              · skip
                have c_68 : ¬ (P) := gb_eq0.mp c_68
                refine lv_iinc (v := nI (p + 1)) (lv' := [(2, .int (nI (p + 1))), (0, .ref (q 0)), (1, .int (nI c)), (3, .int (gb (P))), (4, .int (nI k))]) hx hb dX4_findOwn_73 hl (k := 2) rfl (nI_1 _) (by decide) rfl (fun ls hl => ?_)
                refine lv_goto (tgt := 2) hx hb dX4_findOwn_76 (by decide) ?_
                exact ih_2 (p + 1) (by omega) (by omega) (lt_s hno (fun e => c_68 (hP9.mpr (fun j _ => by rw [e])))) _ (lv_sub hl [1, 2, 0] rfl)
              · skip
                have c_68 : P := gb_ne0.mp c_68
                refine lv_iload_n hx hb dX4_findOwn_71 rfl (lv_at hl 2 rfl) ?_
                exact hret _ _ _ dX4_findOwn_72 (by have e9 : C.getD p 0 = x := cel_ext (fun j hj => hP9.mp c_68 j (by clear hP9; omega)); have e8 := ix_getD (by clear hP9; omega) hno e9; unfold fnd; rw [e8, if_pos (by clear hP9; omega)])
            · skip
              have c_21 : ¬ 16 ≤ k := fun z => c_21 ((nI_leI (a := 16) (b := k) (by decide) (by clear hP9; omega)).mpr z)
              refine lv_iload_n hx hb dX4_findOwn_24 rfl (lv_at hl 3 rfl) ?_
              refine lv_if_eq (tgt := 59) hx hb dX4_findOwn_25 (by decide) (fun c_25 => ?_) (fun c_25 => ?_)
              · skip
                have c_25 : ¬ (P) := gb_eq0.mp c_25
                refine lv_iconst (v := nI 0) hx hb dX4_findOwn_59 (by decide) ?_
                refine g_ti (y := gb (False)) ((gb_f id).symm) ?_
                refine lv_istore_n (lv' := [(3, .int (gb (False))), (0, .ref (q 0)), (1, .int (nI c)), (2, .int (nI p)), (4, .int (nI k))]) hx hb dX4_findOwn_60 rfl hl (by decide) rfl (fun ls hl => ?_)
                refine lv_iinc (v := nI (k + 1)) (lv' := [(4, .int (nI (k + 1))), (3, .int (gb (False))), (0, .ref (q 0)), (1, .int (nI c)), (2, .int (nI p))]) hx hb dX4_findOwn_61 hl (k := 4) rfl (nI_1 _) (by decide) rfl (fun ls hl => ?_)
                refine lv_goto (tgt := 17) hx hb dX4_findOwn_64 (by decide) ?_
                exact ih_17 (k + 1) False (by clear hP9; omega) (by clear hP9; omega) (by rw [all_succ, ← hP9]; first | exact iff_of_false id (fun z => absurd z.1 (by assumption)) | exact iff_of_true trivial ⟨by assumption, by assumption⟩ | exact iff_of_false id (fun z => absurd z.2 (by assumption))) _ (lv_sub hl [2, 3, 4, 1, 0] rfl)
              · skip
                have c_25 : P := gb_ne0.mp c_25
                refine lv_aload_n hx hb dX4_findOwn_28 rfl (lv_at hl 0 rfl) ?_
                refine va_get (D := D) (ci := 4) (v := .ref (q 7)) (C := RX4) (T := TX4) (N := 17) hx hb hts iX4_findOwn_X4 hown hG.1 hP 0 rfl rfl 7 (by decide) (hts (.fieldLink RX4 29 "DirtyTilesModel" "owns" "[I") (by decide +kernel)) (fun _ h9 => h9) rfl dX4_findOwn_29 ?_
                refine lv_bipush (v := nI 112) hx hb dX4_findOwn_32 (by decide) ?_
                refine lv_iload_n hx hb dX4_findOwn_34 rfl (lv_at hl 1 rfl) ?_
                refine lv_imul hx hb dX4_findOwn_35 ?_
                refine g_ti (y := nI (112 * c)) (pk_mul _ _) ?_
                refine lv_bipush (v := nI 16) hx hb dX4_findOwn_36 (by decide) ?_
                refine lv_iload_n hx hb dX4_findOwn_38 rfl (lv_at hl 2 rfl) ?_
                refine lv_imul hx hb dX4_findOwn_39 ?_
                refine g_ti (y := nI (16 * p)) (pk_mul _ _) ?_
                refine lv_iadd hx hb dX4_findOwn_40 ?_
                refine g_ti (y := nI ((112 * c) + (16 * p))) (nI_add _ _) ?_
                refine lv_iload hx hb dX4_findOwn_41 (lv_at hl 4 rfl) ?_
                refine lv_iadd hx hb dX4_findOwn_43 ?_
                refine g_ti (y := nI (((112 * c) + (16 * p)) + k)) (nI_add _ _) ?_
                refine g_iald hx hb hG hP 1 0 rfl rfl (k := ((112 * c) + (16 * p)) + k) (by clear hP9; omega) (by decide) dX4_findOwn_44 ?_
                refine g_ti (y := nI (cel (C.getD p 0) k)) (hca p k (by clear hP9; omega) (by clear hP9; omega)) ?_
                refine lv_aload_n hx hb dX4_findOwn_45 rfl (lv_at hl 0 rfl) ?_
                refine va_get (D := D) (ci := 4) (v := .ref (q 16)) (C := RX4) (T := TX4) (N := 17) hx hb hts iX4_findOwn_X4 hown hG.1 hP 0 rfl rfl 16 (by decide) (hts (.fieldLink RX4 53 "DirtyTilesModel" "tile" "[I") (by decide +kernel)) (fun _ h9 => h9) rfl dX4_findOwn_46 ?_
                refine lv_iload hx hb dX4_findOwn_49 (lv_at hl 4 rfl) ?_
                refine g_iald hx hb hG hP 3 0 rfl rfl (k := k) (by clear hP9; omega) (by decide) dX4_findOwn_51 ?_
                refine g_ti (y := nI (cel x k)) (hx9 k (by clear hP9; omega)) ?_
                refine lv_icmp_ne (tgt := 59) hx hb dX4_findOwn_52 (by decide) (fun c_52 => ?_) (fun c_52 => ?_)
                · skip
                  have c_52 : ¬ (cel (C.getD p 0) k) = (cel x k) := fun z => c_52 ((nI_eq (a := (cel (C.getD p 0) k)) (b := (cel x k)) (Nat.lt_trans (cel_lt _ _) (by decide)) (Nat.lt_trans (cel_lt _ _) (by decide))).mpr z)
                  refine lv_iconst (v := nI 0) hx hb dX4_findOwn_59 (by decide) ?_
                  refine g_ti (y := gb (False)) ((gb_f id).symm) ?_
                  refine lv_istore_n (lv' := [(3, .int (gb (False))), (0, .ref (q 0)), (1, .int (nI c)), (2, .int (nI p)), (4, .int (nI k))]) hx hb dX4_findOwn_60 rfl hl (by decide) rfl (fun ls hl => ?_)
                  refine lv_iinc (v := nI (k + 1)) (lv' := [(4, .int (nI (k + 1))), (3, .int (gb (False))), (0, .ref (q 0)), (1, .int (nI c)), (2, .int (nI p))]) hx hb dX4_findOwn_61 hl (k := 4) rfl (nI_1 _) (by decide) rfl (fun ls hl => ?_)
                  refine lv_goto (tgt := 17) hx hb dX4_findOwn_64 (by decide) ?_
                  exact ih_17 (k + 1) False (by clear hP9; omega) (by clear hP9; omega) (by rw [all_succ, ← hP9]; first | exact iff_of_false id (fun z => absurd z.1 (by assumption)) | exact iff_of_true trivial ⟨by assumption, by assumption⟩ | exact iff_of_false id (fun z => absurd z.2 (by assumption))) _ (lv_sub hl [2, 3, 4, 1, 0] rfl)
                · skip
                  have c_52 : (cel (C.getD p 0) k) = (cel x k) := (nI_eq (a := (cel (C.getD p 0) k)) (b := (cel x k)) (Nat.lt_trans (cel_lt _ _) (by decide)) (Nat.lt_trans (cel_lt _ _) (by decide))).mp c_52
                  refine lv_iconst (v := nI 1) hx hb dX4_findOwn_55 (by decide) ?_
                  refine g_ti (y := gb (True)) ((gb_t trivial).symm) ?_
                  refine lv_goto (tgt := 60) hx hb dX4_findOwn_56 (by decide) ?_
                  refine lv_istore_n (lv' := [(3, .int (gb (True))), (0, .ref (q 0)), (1, .int (nI c)), (2, .int (nI p)), (4, .int (nI k))]) hx hb dX4_findOwn_60 rfl hl (by decide) rfl (fun ls hl => ?_)
                  refine lv_iinc (v := nI (k + 1)) (lv' := [(4, .int (nI (k + 1))), (3, .int (gb (True))), (0, .ref (q 0)), (1, .int (nI c)), (2, .int (nI p))]) hx hb dX4_findOwn_61 hl (k := 4) rfl (nI_1 _) (by decide) rfl (fun ls hl => ?_)
                  refine lv_goto (tgt := 17) hx hb dX4_findOwn_64 (by decide) ?_
                  exact ih_17 (k + 1) True (by clear hP9; omega) (by clear hP9; omega) (by rw [all_succ, ← hP9]; first | exact iff_of_false id (fun z => absurd z.1 (by assumption)) | exact iff_of_true trivial ⟨by assumption, by assumption⟩ | exact iff_of_false id (fun z => absurd z.2 (by assumption))) _ (lv_sub hl [2, 3, 4, 1, 0] rfl)
        exact loop_17 ((16 - 0) + 1) 0 True (Nat.lt_succ_self _) (by omega) ⟨fun _ j hj => absurd hj (Nat.not_lt_zero j), fun _ => trivial⟩ _ (lv_sub hl [2, 3, 4, 1, 0] rfl)
  exact loop_2 ((C.length - 0) + 1) 0 (Nat.lt_succ_self _) (by omega) (fun j hj => absurd hj (Nat.not_lt_zero j)) _ (lv_sub hl [1, 2, 0] rfl)
set_option maxHeartbeats 4000000 in
set_option maxRecDepth 100000 in
theorem c_X4_wayOf (l : Launch) (D : va_G) (cy : Nat → ClassId) (q : Nat → Nat) (T U : Int32) (ca zs tl9 : Nat → Int32) (C : List Int64) (x : Int64) (c : Nat) (hc : c < 2) (hca : hCo C ca c) (hsz : zs c = nI C.length) (hC : C.length ≤ 6) (hx9 : hT x tl9) : Met l yX4_wayOf wsX4_wayOf ({ frames := 1, cells := 0, slots := 0, locals := 24 } : Room) (va_Pc [.ref (q 0), .int (nI c)] (gR D (gT cy) [(q 0, eMod T q U), (q 5, eI cy 224 ca), (q 6, eI cy 2 zs), (q 16, eI cy 16 tl9)])) (vp_Si (fun r9 => r9 = nI (wayO C x))) 0 0 (fun _ => False) := by
  refine gM_i (cc := cX4_wayOf) (maxL := 4) (ty := .int) (by decide) rfl (Nat.le_of_ble_eq_true rfl) (fun v hv => by rw [hv]; first | rfl | exact gb_nar _) ?_
  intro pp ee ss mm bw mt cd QQ ls hfx hP hG hret hl
  obtain ⟨hx, hb, hml, hown, hts, hlocks⟩ := hfx
  have hown : ss.vm.findClass RX4 = some mm.cls := hown
  have hl : lv_has ls 4 [(0, .ref (q 0)), (1, .int (nI c))] := hl
  have z1 := nCol_le x
  have z2 := nRun_le x
  have z3 : (nI (nCol x)).toInt = (nCol x : Int) := nI_toInt (by omega)
  refine lv_aload_n hx hb dX4_wayOf_0 rfl (lv_at hl 0 rfl) ?_
  refine gc_Si (va_runV (As := []) (rest := []) ⟨hx, hb, hml, hown, hts⟩ (c_X4_countColours l D cy q T U tl9 x hx9) (cwV 0 hts gX4_wayOf_X4_countColours rfl rfl rfl (by decide +kernel) ⟨Nat.le_of_ble_eq_true rfl, Nat.le_of_ble_eq_true rfl⟩) (gpVR (ci := 4) (q0 := 0) hG (hP.sub [0, 3] rfl) rfl rfl) rfl rfl hl.1 rfl (lv_room (Nat.le_of_ble_eq_true rfl)) dX4_wayOf_1 ⟨Nat.zero_le _, Nat.zero_le _⟩) ?_
  refine lv_istore_n (lv' := [(2, .int (nI (nCol x))), (0, .ref (q 0)), (1, .int (nI c))]) hx hb dX4_wayOf_4 rfl hl (by decide) rfl (fun ls hl => ?_)
  refine lv_sipush (v := nI 499) hx hb dX4_wayOf_5 (by decide) ?_
  refine lv_istore_n (lv' := [(3, .int (nI 499)), (2, .int (nI (nCol x))), (0, .ref (q 0)), (1, .int (nI c))]) hx hb dX4_wayOf_8 rfl hl (by decide) rfl (fun ls hl => ?_)
  refine lv_aload_n hx hb dX4_wayOf_9 rfl (lv_at hl 2 rfl) ?_
  refine lv_iload_n hx hb dX4_wayOf_10 rfl (lv_at hl 3 rfl) ?_
  refine gc_Si (va_runV (As := [.int (nI c)]) (rest := []) ⟨hx, hb, hml, hown, hts⟩ (c_X4_find l D cy q T U ca zs tl9 C x c hc hca hsz hC hx9) (cwV 1 hts gX4_wayOf_X4_find rfl rfl rfl (by decide +kernel) ⟨Nat.le_of_ble_eq_true rfl, Nat.le_of_ble_eq_true rfl⟩) (gpVR (ci := 4) (q0 := 0) hG (hP.sub [0, 1, 2, 3] rfl) rfl rfl) rfl rfl hl.1 rfl (lv_room (Nat.le_of_ble_eq_true rfl)) dX4_wayOf_11 ⟨Nat.zero_le _, Nat.zero_le _⟩) ?_
  refine lv_iconst (v := (-1)) hx hb dX4_wayOf_14 (by decide) ?_
  refine lv_icmp_eq (tgt := 27) hx hb dX4_wayOf_15 (by decide) (fun c_15 => ?_) (fun c_15 => ?_)
  · skip
    refine lv_iload_n hx hb dX4_wayOf_27 rfl (lv_at hl 0 rfl) ?_
    refine lv_istore_n (lv' := [(3, .int (nI 499)), (2, .int (nI (nCol x))), (0, .ref (q 0)), (1, .int (nI c))]) hx hb dX4_wayOf_28 rfl hl (by decide) rfl (fun ls hl => ?_)
    refine lv_iload_n hx hb dX4_wayOf_29 rfl (lv_at hl 1 rfl) ?_
    refine lv_iconst (v := nI 1) hx hb dX4_wayOf_30 (by decide) ?_
    refine lv_icmp_ne (tgt := 43) hx hb dX4_wayOf_31 (by decide) (fun c_31 => ?_) (fun c_31 => ?_)
    · skip
      have c_31 : ¬ (nCol x) = 1 := fun z => c_31 ((nI_eq (a := (nCol x)) (b := 1) (by omega) (by omega)).mpr z)
      refine lv_iload_n hx hb dX4_wayOf_43 rfl (lv_at hl 0 rfl) ?_
      refine lv_istore_n (lv' := [(3, .int (nI 499)), (2, .int (nI (nCol x))), (0, .ref (q 0)), (1, .int (nI c))]) hx hb dX4_wayOf_44 rfl hl (by decide) rfl (fun ls hl => ?_)
      refine lv_iload_n hx hb dX4_wayOf_45 rfl (lv_at hl 1 rfl) ?_
      refine lv_iconst (v := nI 2) hx hb dX4_wayOf_46 (by decide) ?_
      refine lv_iconst (v := nI 4) hx hb dX4_wayOf_47 (by decide) ?_
      refine gc_Si (va_runS (As := [.int (nI (nCol x)), .int (nI 2), .int (nI 4)]) (rest := []) ⟨hx, hb, hml, hown, hts⟩ (c_X4_in l D cy (nI (nCol x)) (nI 2) (nI 4)) (va_cwS 3 hts gX4_wayOf_X4_in rfl rfl rfl (by decide +kernel) ⟨Nat.le_of_ble_eq_true rfl, Nat.le_of_ble_eq_true rfl⟩) (gpSR hG (hP.sub [] rfl)) rfl rfl hl.1 rfl (lv_room (Nat.le_of_ble_eq_true rfl)) dX4_wayOf_48 ⟨Nat.zero_le _, Nat.zero_le _⟩) ?_
      refine g_ti (y := gb (pIn (nI (nCol x)) 2 4)) ((congrArg (fun z => gb (pIn (nI (nCol x)) z (nI 4 : Int32).toInt)) (by decide : (nI 2 : Int32).toInt = 2)).trans (congrArg (fun z => gb (pIn (nI (nCol x)) 2 z)) (by decide : (nI 4 : Int32).toInt = 4))) ?_
      refine lv_if_eq (tgt := 84) hx hb dX4_wayOf_51 (by decide) (fun c_51 => ?_) (fun c_51 => ?_)
      · skip
        have c_51 : ¬ (pIn (nI (nCol x)) 2 4) := gb_eq0.mp c_51
        have c_51n : ¬ (2 ≤ nCol x ∧ nCol x ≤ 4) := fun z => c_51 ⟨by rw [z3]; omega, by rw [z3]; omega⟩
        refine lv_iload_n hx hb dX4_wayOf_84 rfl (lv_at hl 0 rfl) ?_
        refine lv_istore_n (lv' := [(3, .int (nI 499)), (2, .int (nI (nCol x))), (0, .ref (q 0)), (1, .int (nI c))]) hx hb dX4_wayOf_85 rfl hl (by decide) rfl (fun ls hl => ?_)
        refine lv_iload_n hx hb dX4_wayOf_86 rfl (lv_at hl 0 rfl) ?_
        refine lv_iconst (v := nI 3) hx hb dX4_wayOf_87 (by decide) ?_
        refine lv_iconst (v := nI 1) hx hb dX4_wayOf_88 (by decide) ?_
        refine lv_iconst (v := nI 2) hx hb dX4_wayOf_89 (by decide) ?_
        refine lv_aload_n hx hb dX4_wayOf_90 rfl (lv_at hl 2 rfl) ?_
        refine gc_Si (va_runV (As := []) (rest := [.int (nI 2), .int (nI 1), .int (nI 3), .int (nI 499)]) ⟨hx, hb, hml, hown, hts⟩ (c_X4_countRuns l D cy q T U tl9 x hx9) (cwV 0 hts gX4_wayOf_X4_countRuns rfl rfl rfl (by decide +kernel) ⟨Nat.le_of_ble_eq_true rfl, Nat.le_of_ble_eq_true rfl⟩) (gpVR (ci := 4) (q0 := 0) hG (hP.sub [0, 3] rfl) rfl rfl) rfl rfl hl.1 rfl (lv_room (Nat.le_of_ble_eq_true rfl)) dX4_wayOf_91 ⟨Nat.zero_le _, Nat.zero_le _⟩) ?_
        refine lv_imul hx hb dX4_wayOf_94 ?_
        refine g_ti (y := nI (2 * (nRun x))) (pk_mul _ _) ?_
        refine lv_iadd hx hb dX4_wayOf_95 ?_
        refine g_ti (y := nI (1 + (2 * (nRun x)))) (nI_add _ _) ?_
        refine gc_Si (va_runS (As := [.int (nI 499), .int (nI 3), .int (nI (1 + (2 * (nRun x))))]) (rest := []) ⟨hx, hb, hml, hown, hts⟩ (c_X4_better l D cy 499 3 (1 + (2 * (nRun x))) (by decide) (by decide) (by omega)) (va_cwS 3 hts gX4_wayOf_X4_better rfl rfl rfl (by decide +kernel) ⟨Nat.le_of_ble_eq_true rfl, Nat.le_of_ble_eq_true rfl⟩) (gpSR hG (hP.sub [] rfl)) rfl rfl hl.1 rfl (lv_room (Nat.le_of_ble_eq_true rfl)) dX4_wayOf_96 ⟨Nat.zero_le _, Nat.zero_le _⟩) ?_
        refine lv_istore_n (lv' := [(3, .int (nI (bet 499 3 (1 + (2 * (nRun x)))))), (2, .int (nI (nCol x))), (0, .ref (q 0)), (1, .int (nI c))]) hx hb dX4_wayOf_99 rfl hl (by decide) rfl (fun ls hl => ?_)
        refine lv_iload_n hx hb dX4_wayOf_100 rfl (lv_at hl 0 rfl) ?_
        refine lv_iconst (v := nI 4) hx hb dX4_wayOf_101 (by decide) ?_
        refine lv_bipush (v := nI 17) hx hb dX4_wayOf_102 (by decide) ?_
        refine gc_Si (va_runS (As := [.int (nI (bet 499 3 (1 + (2 * (nRun x))))), .int (nI 4), .int (nI 17)]) (rest := []) ⟨hx, hb, hml, hown, hts⟩ (c_X4_better l D cy (bet 499 3 (1 + (2 * (nRun x)))) 4 17 (bet_lt (by decide) (by decide) (by omega)) (by decide) (by decide)) (va_cwS 3 hts gX4_wayOf_X4_better rfl rfl rfl (by decide +kernel) ⟨Nat.le_of_ble_eq_true rfl, Nat.le_of_ble_eq_true rfl⟩) (gpSR hG (hP.sub [] rfl)) rfl rfl hl.1 rfl (lv_room (Nat.le_of_ble_eq_true rfl)) dX4_wayOf_104 ⟨Nat.zero_le _, Nat.zero_le _⟩) ?_
        exact hret _ _ _ dX4_wayOf_107 (by first | exact way_fin 2 3 10 (if_pos (fnd_ne c_15).1) (if_pos c_31) (ubc_2 (by omega)) (by decide) | exact way_fin 2 3 15 (if_pos (fnd_ne c_15).1) (if_pos c_31) (ubc_3 (by omega)) (by decide) | exact way_fin 2 3 16 (if_pos (fnd_ne c_15).1) (if_pos c_31) (ubc_4 (by omega)) (by decide) | exact way_fin 2 3 99 (if_pos (fnd_ne c_15).1) (if_pos c_31) (ubc_no c_51n) (by decide) | exact way_fin 2 99 10 (if_pos (fnd_ne c_15).1) (if_neg c_31) (ubc_2 (by omega)) (by decide) | exact way_fin 2 99 15 (if_pos (fnd_ne c_15).1) (if_neg c_31) (ubc_3 (by omega)) (by decide) | exact way_fin 2 99 16 (if_pos (fnd_ne c_15).1) (if_neg c_31) (ubc_4 (by omega)) (by decide) | exact way_fin 2 99 99 (if_pos (fnd_ne c_15).1) (if_neg c_31) (ubc_no c_51n) (by decide) | exact way_fin 99 3 10 (if_neg (by have := fnd_eq hC c_15; omega)) (if_pos c_31) (ubc_2 (by omega)) (by decide) | exact way_fin 99 3 15 (if_neg (by have := fnd_eq hC c_15; omega)) (if_pos c_31) (ubc_3 (by omega)) (by decide) | exact way_fin 99 3 16 (if_neg (by have := fnd_eq hC c_15; omega)) (if_pos c_31) (ubc_4 (by omega)) (by decide) | exact way_fin 99 3 99 (if_neg (by have := fnd_eq hC c_15; omega)) (if_pos c_31) (ubc_no c_51n) (by decide) | exact way_fin 99 99 10 (if_neg (by have := fnd_eq hC c_15; omega)) (if_neg c_31) (ubc_2 (by omega)) (by decide) | exact way_fin 99 99 15 (if_neg (by have := fnd_eq hC c_15; omega)) (if_neg c_31) (ubc_3 (by omega)) (by decide) | exact way_fin 99 99 16 (if_neg (by have := fnd_eq hC c_15; omega)) (if_neg c_31) (ubc_4 (by omega)) (by decide) | exact way_fin 99 99 99 (if_neg (by have := fnd_eq hC c_15; omega)) (if_neg c_31) (ubc_no c_51n) (by decide) | (exfalso; omega))
      · skip
        have c_51 : pIn (nI (nCol x)) 2 4 := gb_ne0.mp c_51
        have c_51y : 2 ≤ nCol x ∧ nCol x ≤ 4 := by have q1 := c_51.1; have q2 := c_51.2; rw [z3] at q1 q2; exact ⟨by omega, by omega⟩
        refine lv_iload_n hx hb dX4_wayOf_54 rfl (lv_at hl 0 rfl) ?_
        refine lv_iconst (v := nI 2) hx hb dX4_wayOf_55 (by decide) ?_
        refine lv_iload_n hx hb dX4_wayOf_56 rfl (lv_at hl 1 rfl) ?_
        refine lv_iconst (v := nI 2) hx hb dX4_wayOf_57 (by decide) ?_
        refine lv_icmp_ne (tgt := 66) hx hb dX4_wayOf_58 (by decide) (fun c_58 => ?_) (fun c_58 => ?_)
        · skip
          have c_58 : ¬ (nCol x) = 2 := fun z => c_58 ((nI_eq (a := (nCol x)) (b := 2) (by omega) (by omega)).mpr z)
          refine lv_iload_n hx hb dX4_wayOf_66 rfl (lv_at hl 1 rfl) ?_
          refine lv_iconst (v := nI 3) hx hb dX4_wayOf_67 (by decide) ?_
          refine lv_icmp_ne (tgt := 76) hx hb dX4_wayOf_68 (by decide) (fun c_68 => ?_) (fun c_68 => ?_)
          · skip
            have c_68 : ¬ (nCol x) = 3 := fun z => c_68 ((nI_eq (a := (nCol x)) (b := 3) (by omega) (by omega)).mpr z)
            refine lv_bipush (v := nI 16) hx hb dX4_wayOf_76 (by decide) ?_
            refine gc_Si (va_runS (As := [.int (nI 499), .int (nI 2), .int (nI 16)]) (rest := []) ⟨hx, hb, hml, hown, hts⟩ (c_X4_better l D cy 499 2 16 (by decide) (by decide) (by decide)) (va_cwS 3 hts gX4_wayOf_X4_better rfl rfl rfl (by decide +kernel) ⟨Nat.le_of_ble_eq_true rfl, Nat.le_of_ble_eq_true rfl⟩) (gpSR hG (hP.sub [] rfl)) rfl rfl hl.1 rfl (lv_room (Nat.le_of_ble_eq_true rfl)) dX4_wayOf_78 ⟨Nat.zero_le _, Nat.zero_le _⟩) ?_
            refine g_ti (y := nI 216) (by decide) ?_
            refine lv_goto (tgt := 85) hx hb dX4_wayOf_81 (by decide) ?_
            refine lv_istore_n (lv' := [(3, .int (nI 216)), (2, .int (nI (nCol x))), (0, .ref (q 0)), (1, .int (nI c))]) hx hb dX4_wayOf_85 rfl hl (by decide) rfl (fun ls hl => ?_)
            refine lv_iload_n hx hb dX4_wayOf_86 rfl (lv_at hl 0 rfl) ?_
            refine lv_iconst (v := nI 3) hx hb dX4_wayOf_87 (by decide) ?_
            refine lv_iconst (v := nI 1) hx hb dX4_wayOf_88 (by decide) ?_
            refine lv_iconst (v := nI 2) hx hb dX4_wayOf_89 (by decide) ?_
            refine lv_aload_n hx hb dX4_wayOf_90 rfl (lv_at hl 2 rfl) ?_
            refine gc_Si (va_runV (As := []) (rest := [.int (nI 2), .int (nI 1), .int (nI 3), .int (nI 216)]) ⟨hx, hb, hml, hown, hts⟩ (c_X4_countRuns l D cy q T U tl9 x hx9) (cwV 0 hts gX4_wayOf_X4_countRuns rfl rfl rfl (by decide +kernel) ⟨Nat.le_of_ble_eq_true rfl, Nat.le_of_ble_eq_true rfl⟩) (gpVR (ci := 4) (q0 := 0) hG (hP.sub [0, 3] rfl) rfl rfl) rfl rfl hl.1 rfl (lv_room (Nat.le_of_ble_eq_true rfl)) dX4_wayOf_91 ⟨Nat.zero_le _, Nat.zero_le _⟩) ?_
            refine lv_imul hx hb dX4_wayOf_94 ?_
            refine g_ti (y := nI (2 * (nRun x))) (pk_mul _ _) ?_
            refine lv_iadd hx hb dX4_wayOf_95 ?_
            refine g_ti (y := nI (1 + (2 * (nRun x)))) (nI_add _ _) ?_
            refine gc_Si (va_runS (As := [.int (nI 216), .int (nI 3), .int (nI (1 + (2 * (nRun x))))]) (rest := []) ⟨hx, hb, hml, hown, hts⟩ (c_X4_better l D cy 216 3 (1 + (2 * (nRun x))) (by decide) (by decide) (by omega)) (va_cwS 3 hts gX4_wayOf_X4_better rfl rfl rfl (by decide +kernel) ⟨Nat.le_of_ble_eq_true rfl, Nat.le_of_ble_eq_true rfl⟩) (gpSR hG (hP.sub [] rfl)) rfl rfl hl.1 rfl (lv_room (Nat.le_of_ble_eq_true rfl)) dX4_wayOf_96 ⟨Nat.zero_le _, Nat.zero_le _⟩) ?_
            refine lv_istore_n (lv' := [(3, .int (nI (bet 216 3 (1 + (2 * (nRun x)))))), (2, .int (nI (nCol x))), (0, .ref (q 0)), (1, .int (nI c))]) hx hb dX4_wayOf_99 rfl hl (by decide) rfl (fun ls hl => ?_)
            refine lv_iload_n hx hb dX4_wayOf_100 rfl (lv_at hl 0 rfl) ?_
            refine lv_iconst (v := nI 4) hx hb dX4_wayOf_101 (by decide) ?_
            refine lv_bipush (v := nI 17) hx hb dX4_wayOf_102 (by decide) ?_
            refine gc_Si (va_runS (As := [.int (nI (bet 216 3 (1 + (2 * (nRun x))))), .int (nI 4), .int (nI 17)]) (rest := []) ⟨hx, hb, hml, hown, hts⟩ (c_X4_better l D cy (bet 216 3 (1 + (2 * (nRun x)))) 4 17 (bet_lt (by decide) (by decide) (by omega)) (by decide) (by decide)) (va_cwS 3 hts gX4_wayOf_X4_better rfl rfl rfl (by decide +kernel) ⟨Nat.le_of_ble_eq_true rfl, Nat.le_of_ble_eq_true rfl⟩) (gpSR hG (hP.sub [] rfl)) rfl rfl hl.1 rfl (lv_room (Nat.le_of_ble_eq_true rfl)) dX4_wayOf_104 ⟨Nat.zero_le _, Nat.zero_le _⟩) ?_
            exact hret _ _ _ dX4_wayOf_107 (by first | exact way_fin 2 3 10 (if_pos (fnd_ne c_15).1) (if_pos c_31) (ubc_2 (by omega)) (by decide) | exact way_fin 2 3 15 (if_pos (fnd_ne c_15).1) (if_pos c_31) (ubc_3 (by omega)) (by decide) | exact way_fin 2 3 16 (if_pos (fnd_ne c_15).1) (if_pos c_31) (ubc_4 (by omega)) (by decide) | exact way_fin 2 3 99 (if_pos (fnd_ne c_15).1) (if_pos c_31) (ubc_no c_51n) (by decide) | exact way_fin 2 99 10 (if_pos (fnd_ne c_15).1) (if_neg c_31) (ubc_2 (by omega)) (by decide) | exact way_fin 2 99 15 (if_pos (fnd_ne c_15).1) (if_neg c_31) (ubc_3 (by omega)) (by decide) | exact way_fin 2 99 16 (if_pos (fnd_ne c_15).1) (if_neg c_31) (ubc_4 (by omega)) (by decide) | exact way_fin 2 99 99 (if_pos (fnd_ne c_15).1) (if_neg c_31) (ubc_no c_51n) (by decide) | exact way_fin 99 3 10 (if_neg (by have := fnd_eq hC c_15; omega)) (if_pos c_31) (ubc_2 (by omega)) (by decide) | exact way_fin 99 3 15 (if_neg (by have := fnd_eq hC c_15; omega)) (if_pos c_31) (ubc_3 (by omega)) (by decide) | exact way_fin 99 3 16 (if_neg (by have := fnd_eq hC c_15; omega)) (if_pos c_31) (ubc_4 (by omega)) (by decide) | exact way_fin 99 3 99 (if_neg (by have := fnd_eq hC c_15; omega)) (if_pos c_31) (ubc_no c_51n) (by decide) | exact way_fin 99 99 10 (if_neg (by have := fnd_eq hC c_15; omega)) (if_neg c_31) (ubc_2 (by omega)) (by decide) | exact way_fin 99 99 15 (if_neg (by have := fnd_eq hC c_15; omega)) (if_neg c_31) (ubc_3 (by omega)) (by decide) | exact way_fin 99 99 16 (if_neg (by have := fnd_eq hC c_15; omega)) (if_neg c_31) (ubc_4 (by omega)) (by decide) | exact way_fin 99 99 99 (if_neg (by have := fnd_eq hC c_15; omega)) (if_neg c_31) (ubc_no c_51n) (by decide) | (exfalso; omega))
          · skip
            have c_68 : (nCol x) = 3 := (nI_eq (a := (nCol x)) (b := 3) (by omega) (by omega)).mp c_68
            refine lv_bipush (v := nI 15) hx hb dX4_wayOf_71 (by decide) ?_
            refine lv_goto (tgt := 78) hx hb dX4_wayOf_73 (by decide) ?_
            refine gc_Si (va_runS (As := [.int (nI 499), .int (nI 2), .int (nI 15)]) (rest := []) ⟨hx, hb, hml, hown, hts⟩ (c_X4_better l D cy 499 2 15 (by decide) (by decide) (by decide)) (va_cwS 3 hts gX4_wayOf_X4_better rfl rfl rfl (by decide +kernel) ⟨Nat.le_of_ble_eq_true rfl, Nat.le_of_ble_eq_true rfl⟩) (gpSR hG (hP.sub [] rfl)) rfl rfl hl.1 rfl (lv_room (Nat.le_of_ble_eq_true rfl)) dX4_wayOf_78 ⟨Nat.zero_le _, Nat.zero_le _⟩) ?_
            refine g_ti (y := nI 215) (by decide) ?_
            refine lv_goto (tgt := 85) hx hb dX4_wayOf_81 (by decide) ?_
            refine lv_istore_n (lv' := [(3, .int (nI 215)), (2, .int (nI (nCol x))), (0, .ref (q 0)), (1, .int (nI c))]) hx hb dX4_wayOf_85 rfl hl (by decide) rfl (fun ls hl => ?_)
            refine lv_iload_n hx hb dX4_wayOf_86 rfl (lv_at hl 0 rfl) ?_
            refine lv_iconst (v := nI 3) hx hb dX4_wayOf_87 (by decide) ?_
            refine lv_iconst (v := nI 1) hx hb dX4_wayOf_88 (by decide) ?_
            refine lv_iconst (v := nI 2) hx hb dX4_wayOf_89 (by decide) ?_
            refine lv_aload_n hx hb dX4_wayOf_90 rfl (lv_at hl 2 rfl) ?_
            refine gc_Si (va_runV (As := []) (rest := [.int (nI 2), .int (nI 1), .int (nI 3), .int (nI 215)]) ⟨hx, hb, hml, hown, hts⟩ (c_X4_countRuns l D cy q T U tl9 x hx9) (cwV 0 hts gX4_wayOf_X4_countRuns rfl rfl rfl (by decide +kernel) ⟨Nat.le_of_ble_eq_true rfl, Nat.le_of_ble_eq_true rfl⟩) (gpVR (ci := 4) (q0 := 0) hG (hP.sub [0, 3] rfl) rfl rfl) rfl rfl hl.1 rfl (lv_room (Nat.le_of_ble_eq_true rfl)) dX4_wayOf_91 ⟨Nat.zero_le _, Nat.zero_le _⟩) ?_
            refine lv_imul hx hb dX4_wayOf_94 ?_
            refine g_ti (y := nI (2 * (nRun x))) (pk_mul _ _) ?_
            refine lv_iadd hx hb dX4_wayOf_95 ?_
            refine g_ti (y := nI (1 + (2 * (nRun x)))) (nI_add _ _) ?_
            refine gc_Si (va_runS (As := [.int (nI 215), .int (nI 3), .int (nI (1 + (2 * (nRun x))))]) (rest := []) ⟨hx, hb, hml, hown, hts⟩ (c_X4_better l D cy 215 3 (1 + (2 * (nRun x))) (by decide) (by decide) (by omega)) (va_cwS 3 hts gX4_wayOf_X4_better rfl rfl rfl (by decide +kernel) ⟨Nat.le_of_ble_eq_true rfl, Nat.le_of_ble_eq_true rfl⟩) (gpSR hG (hP.sub [] rfl)) rfl rfl hl.1 rfl (lv_room (Nat.le_of_ble_eq_true rfl)) dX4_wayOf_96 ⟨Nat.zero_le _, Nat.zero_le _⟩) ?_
            refine lv_istore_n (lv' := [(3, .int (nI (bet 215 3 (1 + (2 * (nRun x)))))), (2, .int (nI (nCol x))), (0, .ref (q 0)), (1, .int (nI c))]) hx hb dX4_wayOf_99 rfl hl (by decide) rfl (fun ls hl => ?_)
            refine lv_iload_n hx hb dX4_wayOf_100 rfl (lv_at hl 0 rfl) ?_
            refine lv_iconst (v := nI 4) hx hb dX4_wayOf_101 (by decide) ?_
            refine lv_bipush (v := nI 17) hx hb dX4_wayOf_102 (by decide) ?_
            refine gc_Si (va_runS (As := [.int (nI (bet 215 3 (1 + (2 * (nRun x))))), .int (nI 4), .int (nI 17)]) (rest := []) ⟨hx, hb, hml, hown, hts⟩ (c_X4_better l D cy (bet 215 3 (1 + (2 * (nRun x)))) 4 17 (bet_lt (by decide) (by decide) (by omega)) (by decide) (by decide)) (va_cwS 3 hts gX4_wayOf_X4_better rfl rfl rfl (by decide +kernel) ⟨Nat.le_of_ble_eq_true rfl, Nat.le_of_ble_eq_true rfl⟩) (gpSR hG (hP.sub [] rfl)) rfl rfl hl.1 rfl (lv_room (Nat.le_of_ble_eq_true rfl)) dX4_wayOf_104 ⟨Nat.zero_le _, Nat.zero_le _⟩) ?_
            exact hret _ _ _ dX4_wayOf_107 (by first | exact way_fin 2 3 10 (if_pos (fnd_ne c_15).1) (if_pos c_31) (ubc_2 (by omega)) (by decide) | exact way_fin 2 3 15 (if_pos (fnd_ne c_15).1) (if_pos c_31) (ubc_3 (by omega)) (by decide) | exact way_fin 2 3 16 (if_pos (fnd_ne c_15).1) (if_pos c_31) (ubc_4 (by omega)) (by decide) | exact way_fin 2 3 99 (if_pos (fnd_ne c_15).1) (if_pos c_31) (ubc_no c_51n) (by decide) | exact way_fin 2 99 10 (if_pos (fnd_ne c_15).1) (if_neg c_31) (ubc_2 (by omega)) (by decide) | exact way_fin 2 99 15 (if_pos (fnd_ne c_15).1) (if_neg c_31) (ubc_3 (by omega)) (by decide) | exact way_fin 2 99 16 (if_pos (fnd_ne c_15).1) (if_neg c_31) (ubc_4 (by omega)) (by decide) | exact way_fin 2 99 99 (if_pos (fnd_ne c_15).1) (if_neg c_31) (ubc_no c_51n) (by decide) | exact way_fin 99 3 10 (if_neg (by have := fnd_eq hC c_15; omega)) (if_pos c_31) (ubc_2 (by omega)) (by decide) | exact way_fin 99 3 15 (if_neg (by have := fnd_eq hC c_15; omega)) (if_pos c_31) (ubc_3 (by omega)) (by decide) | exact way_fin 99 3 16 (if_neg (by have := fnd_eq hC c_15; omega)) (if_pos c_31) (ubc_4 (by omega)) (by decide) | exact way_fin 99 3 99 (if_neg (by have := fnd_eq hC c_15; omega)) (if_pos c_31) (ubc_no c_51n) (by decide) | exact way_fin 99 99 10 (if_neg (by have := fnd_eq hC c_15; omega)) (if_neg c_31) (ubc_2 (by omega)) (by decide) | exact way_fin 99 99 15 (if_neg (by have := fnd_eq hC c_15; omega)) (if_neg c_31) (ubc_3 (by omega)) (by decide) | exact way_fin 99 99 16 (if_neg (by have := fnd_eq hC c_15; omega)) (if_neg c_31) (ubc_4 (by omega)) (by decide) | exact way_fin 99 99 99 (if_neg (by have := fnd_eq hC c_15; omega)) (if_neg c_31) (ubc_no c_51n) (by decide) | (exfalso; omega))
        · skip
          have c_58 : (nCol x) = 2 := (nI_eq (a := (nCol x)) (b := 2) (by omega) (by omega)).mp c_58
          refine lv_bipush (v := nI 10) hx hb dX4_wayOf_61 (by decide) ?_
          refine lv_goto (tgt := 78) hx hb dX4_wayOf_63 (by decide) ?_
          refine gc_Si (va_runS (As := [.int (nI 499), .int (nI 2), .int (nI 10)]) (rest := []) ⟨hx, hb, hml, hown, hts⟩ (c_X4_better l D cy 499 2 10 (by decide) (by decide) (by decide)) (va_cwS 3 hts gX4_wayOf_X4_better rfl rfl rfl (by decide +kernel) ⟨Nat.le_of_ble_eq_true rfl, Nat.le_of_ble_eq_true rfl⟩) (gpSR hG (hP.sub [] rfl)) rfl rfl hl.1 rfl (lv_room (Nat.le_of_ble_eq_true rfl)) dX4_wayOf_78 ⟨Nat.zero_le _, Nat.zero_le _⟩) ?_
          refine g_ti (y := nI 210) (by decide) ?_
          refine lv_goto (tgt := 85) hx hb dX4_wayOf_81 (by decide) ?_
          refine lv_istore_n (lv' := [(3, .int (nI 210)), (2, .int (nI (nCol x))), (0, .ref (q 0)), (1, .int (nI c))]) hx hb dX4_wayOf_85 rfl hl (by decide) rfl (fun ls hl => ?_)
          refine lv_iload_n hx hb dX4_wayOf_86 rfl (lv_at hl 0 rfl) ?_
          refine lv_iconst (v := nI 3) hx hb dX4_wayOf_87 (by decide) ?_
          refine lv_iconst (v := nI 1) hx hb dX4_wayOf_88 (by decide) ?_
          refine lv_iconst (v := nI 2) hx hb dX4_wayOf_89 (by decide) ?_
          refine lv_aload_n hx hb dX4_wayOf_90 rfl (lv_at hl 2 rfl) ?_
          refine gc_Si (va_runV (As := []) (rest := [.int (nI 2), .int (nI 1), .int (nI 3), .int (nI 210)]) ⟨hx, hb, hml, hown, hts⟩ (c_X4_countRuns l D cy q T U tl9 x hx9) (cwV 0 hts gX4_wayOf_X4_countRuns rfl rfl rfl (by decide +kernel) ⟨Nat.le_of_ble_eq_true rfl, Nat.le_of_ble_eq_true rfl⟩) (gpVR (ci := 4) (q0 := 0) hG (hP.sub [0, 3] rfl) rfl rfl) rfl rfl hl.1 rfl (lv_room (Nat.le_of_ble_eq_true rfl)) dX4_wayOf_91 ⟨Nat.zero_le _, Nat.zero_le _⟩) ?_
          refine lv_imul hx hb dX4_wayOf_94 ?_
          refine g_ti (y := nI (2 * (nRun x))) (pk_mul _ _) ?_
          refine lv_iadd hx hb dX4_wayOf_95 ?_
          refine g_ti (y := nI (1 + (2 * (nRun x)))) (nI_add _ _) ?_
          refine gc_Si (va_runS (As := [.int (nI 210), .int (nI 3), .int (nI (1 + (2 * (nRun x))))]) (rest := []) ⟨hx, hb, hml, hown, hts⟩ (c_X4_better l D cy 210 3 (1 + (2 * (nRun x))) (by decide) (by decide) (by omega)) (va_cwS 3 hts gX4_wayOf_X4_better rfl rfl rfl (by decide +kernel) ⟨Nat.le_of_ble_eq_true rfl, Nat.le_of_ble_eq_true rfl⟩) (gpSR hG (hP.sub [] rfl)) rfl rfl hl.1 rfl (lv_room (Nat.le_of_ble_eq_true rfl)) dX4_wayOf_96 ⟨Nat.zero_le _, Nat.zero_le _⟩) ?_
          refine lv_istore_n (lv' := [(3, .int (nI (bet 210 3 (1 + (2 * (nRun x)))))), (2, .int (nI (nCol x))), (0, .ref (q 0)), (1, .int (nI c))]) hx hb dX4_wayOf_99 rfl hl (by decide) rfl (fun ls hl => ?_)
          refine lv_iload_n hx hb dX4_wayOf_100 rfl (lv_at hl 0 rfl) ?_
          refine lv_iconst (v := nI 4) hx hb dX4_wayOf_101 (by decide) ?_
          refine lv_bipush (v := nI 17) hx hb dX4_wayOf_102 (by decide) ?_
          refine gc_Si (va_runS (As := [.int (nI (bet 210 3 (1 + (2 * (nRun x))))), .int (nI 4), .int (nI 17)]) (rest := []) ⟨hx, hb, hml, hown, hts⟩ (c_X4_better l D cy (bet 210 3 (1 + (2 * (nRun x)))) 4 17 (bet_lt (by decide) (by decide) (by omega)) (by decide) (by decide)) (va_cwS 3 hts gX4_wayOf_X4_better rfl rfl rfl (by decide +kernel) ⟨Nat.le_of_ble_eq_true rfl, Nat.le_of_ble_eq_true rfl⟩) (gpSR hG (hP.sub [] rfl)) rfl rfl hl.1 rfl (lv_room (Nat.le_of_ble_eq_true rfl)) dX4_wayOf_104 ⟨Nat.zero_le _, Nat.zero_le _⟩) ?_
          exact hret _ _ _ dX4_wayOf_107 (by first | exact way_fin 2 3 10 (if_pos (fnd_ne c_15).1) (if_pos c_31) (ubc_2 (by omega)) (by decide) | exact way_fin 2 3 15 (if_pos (fnd_ne c_15).1) (if_pos c_31) (ubc_3 (by omega)) (by decide) | exact way_fin 2 3 16 (if_pos (fnd_ne c_15).1) (if_pos c_31) (ubc_4 (by omega)) (by decide) | exact way_fin 2 3 99 (if_pos (fnd_ne c_15).1) (if_pos c_31) (ubc_no c_51n) (by decide) | exact way_fin 2 99 10 (if_pos (fnd_ne c_15).1) (if_neg c_31) (ubc_2 (by omega)) (by decide) | exact way_fin 2 99 15 (if_pos (fnd_ne c_15).1) (if_neg c_31) (ubc_3 (by omega)) (by decide) | exact way_fin 2 99 16 (if_pos (fnd_ne c_15).1) (if_neg c_31) (ubc_4 (by omega)) (by decide) | exact way_fin 2 99 99 (if_pos (fnd_ne c_15).1) (if_neg c_31) (ubc_no c_51n) (by decide) | exact way_fin 99 3 10 (if_neg (by have := fnd_eq hC c_15; omega)) (if_pos c_31) (ubc_2 (by omega)) (by decide) | exact way_fin 99 3 15 (if_neg (by have := fnd_eq hC c_15; omega)) (if_pos c_31) (ubc_3 (by omega)) (by decide) | exact way_fin 99 3 16 (if_neg (by have := fnd_eq hC c_15; omega)) (if_pos c_31) (ubc_4 (by omega)) (by decide) | exact way_fin 99 3 99 (if_neg (by have := fnd_eq hC c_15; omega)) (if_pos c_31) (ubc_no c_51n) (by decide) | exact way_fin 99 99 10 (if_neg (by have := fnd_eq hC c_15; omega)) (if_neg c_31) (ubc_2 (by omega)) (by decide) | exact way_fin 99 99 15 (if_neg (by have := fnd_eq hC c_15; omega)) (if_neg c_31) (ubc_3 (by omega)) (by decide) | exact way_fin 99 99 16 (if_neg (by have := fnd_eq hC c_15; omega)) (if_neg c_31) (ubc_4 (by omega)) (by decide) | exact way_fin 99 99 99 (if_neg (by have := fnd_eq hC c_15; omega)) (if_neg c_31) (ubc_no c_51n) (by decide) | (exfalso; omega))
    · skip
      have c_31 : (nCol x) = 1 := (nI_eq (a := (nCol x)) (b := 1) (by omega) (by omega)).mp c_31
      refine lv_iload_n hx hb dX4_wayOf_34 rfl (lv_at hl 0 rfl) ?_
      refine lv_iconst (v := nI 1) hx hb dX4_wayOf_35 (by decide) ?_
      refine lv_iconst (v := nI 3) hx hb dX4_wayOf_36 (by decide) ?_
      refine gc_Si (va_runS (As := [.int (nI 499), .int (nI 1), .int (nI 3)]) (rest := []) ⟨hx, hb, hml, hown, hts⟩ (c_X4_better l D cy 499 1 3 (by decide) (by decide) (by decide)) (va_cwS 3 hts gX4_wayOf_X4_better rfl rfl rfl (by decide +kernel) ⟨Nat.le_of_ble_eq_true rfl, Nat.le_of_ble_eq_true rfl⟩) (gpSR hG (hP.sub [] rfl)) rfl rfl hl.1 rfl (lv_room (Nat.le_of_ble_eq_true rfl)) dX4_wayOf_37 ⟨Nat.zero_le _, Nat.zero_le _⟩) ?_
      refine g_ti (y := nI 103) (by decide) ?_
      refine lv_goto (tgt := 44) hx hb dX4_wayOf_40 (by decide) ?_
      refine lv_istore_n (lv' := [(3, .int (nI 103)), (2, .int (nI (nCol x))), (0, .ref (q 0)), (1, .int (nI c))]) hx hb dX4_wayOf_44 rfl hl (by decide) rfl (fun ls hl => ?_)
      refine lv_iload_n hx hb dX4_wayOf_45 rfl (lv_at hl 1 rfl) ?_
      refine lv_iconst (v := nI 2) hx hb dX4_wayOf_46 (by decide) ?_
      refine lv_iconst (v := nI 4) hx hb dX4_wayOf_47 (by decide) ?_
      refine gc_Si (va_runS (As := [.int (nI (nCol x)), .int (nI 2), .int (nI 4)]) (rest := []) ⟨hx, hb, hml, hown, hts⟩ (c_X4_in l D cy (nI (nCol x)) (nI 2) (nI 4)) (va_cwS 3 hts gX4_wayOf_X4_in rfl rfl rfl (by decide +kernel) ⟨Nat.le_of_ble_eq_true rfl, Nat.le_of_ble_eq_true rfl⟩) (gpSR hG (hP.sub [] rfl)) rfl rfl hl.1 rfl (lv_room (Nat.le_of_ble_eq_true rfl)) dX4_wayOf_48 ⟨Nat.zero_le _, Nat.zero_le _⟩) ?_
      refine g_ti (y := gb (pIn (nI (nCol x)) 2 4)) ((congrArg (fun z => gb (pIn (nI (nCol x)) z (nI 4 : Int32).toInt)) (by decide : (nI 2 : Int32).toInt = 2)).trans (congrArg (fun z => gb (pIn (nI (nCol x)) 2 z)) (by decide : (nI 4 : Int32).toInt = 4))) ?_
      refine lv_if_eq (tgt := 84) hx hb dX4_wayOf_51 (by decide) (fun c_51 => ?_) (fun c_51 => ?_)
      · skip
        have c_51 : ¬ (pIn (nI (nCol x)) 2 4) := gb_eq0.mp c_51
        have c_51n : ¬ (2 ≤ nCol x ∧ nCol x ≤ 4) := fun z => c_51 ⟨by rw [z3]; omega, by rw [z3]; omega⟩
        refine lv_iload_n hx hb dX4_wayOf_84 rfl (lv_at hl 0 rfl) ?_
        refine lv_istore_n (lv' := [(3, .int (nI 103)), (2, .int (nI (nCol x))), (0, .ref (q 0)), (1, .int (nI c))]) hx hb dX4_wayOf_85 rfl hl (by decide) rfl (fun ls hl => ?_)
        refine lv_iload_n hx hb dX4_wayOf_86 rfl (lv_at hl 0 rfl) ?_
        refine lv_iconst (v := nI 3) hx hb dX4_wayOf_87 (by decide) ?_
        refine lv_iconst (v := nI 1) hx hb dX4_wayOf_88 (by decide) ?_
        refine lv_iconst (v := nI 2) hx hb dX4_wayOf_89 (by decide) ?_
        refine lv_aload_n hx hb dX4_wayOf_90 rfl (lv_at hl 2 rfl) ?_
        refine gc_Si (va_runV (As := []) (rest := [.int (nI 2), .int (nI 1), .int (nI 3), .int (nI 103)]) ⟨hx, hb, hml, hown, hts⟩ (c_X4_countRuns l D cy q T U tl9 x hx9) (cwV 0 hts gX4_wayOf_X4_countRuns rfl rfl rfl (by decide +kernel) ⟨Nat.le_of_ble_eq_true rfl, Nat.le_of_ble_eq_true rfl⟩) (gpVR (ci := 4) (q0 := 0) hG (hP.sub [0, 3] rfl) rfl rfl) rfl rfl hl.1 rfl (lv_room (Nat.le_of_ble_eq_true rfl)) dX4_wayOf_91 ⟨Nat.zero_le _, Nat.zero_le _⟩) ?_
        refine lv_imul hx hb dX4_wayOf_94 ?_
        refine g_ti (y := nI (2 * (nRun x))) (pk_mul _ _) ?_
        refine lv_iadd hx hb dX4_wayOf_95 ?_
        refine g_ti (y := nI (1 + (2 * (nRun x)))) (nI_add _ _) ?_
        refine gc_Si (va_runS (As := [.int (nI 103), .int (nI 3), .int (nI (1 + (2 * (nRun x))))]) (rest := []) ⟨hx, hb, hml, hown, hts⟩ (c_X4_better l D cy 103 3 (1 + (2 * (nRun x))) (by decide) (by decide) (by omega)) (va_cwS 3 hts gX4_wayOf_X4_better rfl rfl rfl (by decide +kernel) ⟨Nat.le_of_ble_eq_true rfl, Nat.le_of_ble_eq_true rfl⟩) (gpSR hG (hP.sub [] rfl)) rfl rfl hl.1 rfl (lv_room (Nat.le_of_ble_eq_true rfl)) dX4_wayOf_96 ⟨Nat.zero_le _, Nat.zero_le _⟩) ?_
        refine lv_istore_n (lv' := [(3, .int (nI (bet 103 3 (1 + (2 * (nRun x)))))), (2, .int (nI (nCol x))), (0, .ref (q 0)), (1, .int (nI c))]) hx hb dX4_wayOf_99 rfl hl (by decide) rfl (fun ls hl => ?_)
        refine lv_iload_n hx hb dX4_wayOf_100 rfl (lv_at hl 0 rfl) ?_
        refine lv_iconst (v := nI 4) hx hb dX4_wayOf_101 (by decide) ?_
        refine lv_bipush (v := nI 17) hx hb dX4_wayOf_102 (by decide) ?_
        refine gc_Si (va_runS (As := [.int (nI (bet 103 3 (1 + (2 * (nRun x))))), .int (nI 4), .int (nI 17)]) (rest := []) ⟨hx, hb, hml, hown, hts⟩ (c_X4_better l D cy (bet 103 3 (1 + (2 * (nRun x)))) 4 17 (bet_lt (by decide) (by decide) (by omega)) (by decide) (by decide)) (va_cwS 3 hts gX4_wayOf_X4_better rfl rfl rfl (by decide +kernel) ⟨Nat.le_of_ble_eq_true rfl, Nat.le_of_ble_eq_true rfl⟩) (gpSR hG (hP.sub [] rfl)) rfl rfl hl.1 rfl (lv_room (Nat.le_of_ble_eq_true rfl)) dX4_wayOf_104 ⟨Nat.zero_le _, Nat.zero_le _⟩) ?_
        exact hret _ _ _ dX4_wayOf_107 (by first | exact way_fin 2 3 10 (if_pos (fnd_ne c_15).1) (if_pos c_31) (ubc_2 (by omega)) (by decide) | exact way_fin 2 3 15 (if_pos (fnd_ne c_15).1) (if_pos c_31) (ubc_3 (by omega)) (by decide) | exact way_fin 2 3 16 (if_pos (fnd_ne c_15).1) (if_pos c_31) (ubc_4 (by omega)) (by decide) | exact way_fin 2 3 99 (if_pos (fnd_ne c_15).1) (if_pos c_31) (ubc_no c_51n) (by decide) | exact way_fin 2 99 10 (if_pos (fnd_ne c_15).1) (if_neg c_31) (ubc_2 (by omega)) (by decide) | exact way_fin 2 99 15 (if_pos (fnd_ne c_15).1) (if_neg c_31) (ubc_3 (by omega)) (by decide) | exact way_fin 2 99 16 (if_pos (fnd_ne c_15).1) (if_neg c_31) (ubc_4 (by omega)) (by decide) | exact way_fin 2 99 99 (if_pos (fnd_ne c_15).1) (if_neg c_31) (ubc_no c_51n) (by decide) | exact way_fin 99 3 10 (if_neg (by have := fnd_eq hC c_15; omega)) (if_pos c_31) (ubc_2 (by omega)) (by decide) | exact way_fin 99 3 15 (if_neg (by have := fnd_eq hC c_15; omega)) (if_pos c_31) (ubc_3 (by omega)) (by decide) | exact way_fin 99 3 16 (if_neg (by have := fnd_eq hC c_15; omega)) (if_pos c_31) (ubc_4 (by omega)) (by decide) | exact way_fin 99 3 99 (if_neg (by have := fnd_eq hC c_15; omega)) (if_pos c_31) (ubc_no c_51n) (by decide) | exact way_fin 99 99 10 (if_neg (by have := fnd_eq hC c_15; omega)) (if_neg c_31) (ubc_2 (by omega)) (by decide) | exact way_fin 99 99 15 (if_neg (by have := fnd_eq hC c_15; omega)) (if_neg c_31) (ubc_3 (by omega)) (by decide) | exact way_fin 99 99 16 (if_neg (by have := fnd_eq hC c_15; omega)) (if_neg c_31) (ubc_4 (by omega)) (by decide) | exact way_fin 99 99 99 (if_neg (by have := fnd_eq hC c_15; omega)) (if_neg c_31) (ubc_no c_51n) (by decide) | (exfalso; omega))
      · skip
        have c_51 : pIn (nI (nCol x)) 2 4 := gb_ne0.mp c_51
        have c_51y : 2 ≤ nCol x ∧ nCol x ≤ 4 := by have q1 := c_51.1; have q2 := c_51.2; rw [z3] at q1 q2; exact ⟨by omega, by omega⟩
        refine lv_iload_n hx hb dX4_wayOf_54 rfl (lv_at hl 0 rfl) ?_
        refine lv_iconst (v := nI 2) hx hb dX4_wayOf_55 (by decide) ?_
        refine lv_iload_n hx hb dX4_wayOf_56 rfl (lv_at hl 1 rfl) ?_
        refine lv_iconst (v := nI 2) hx hb dX4_wayOf_57 (by decide) ?_
        refine lv_icmp_ne (tgt := 66) hx hb dX4_wayOf_58 (by decide) (fun c_58 => ?_) (fun c_58 => ?_)
        · skip
          have c_58 : ¬ (nCol x) = 2 := fun z => c_58 ((nI_eq (a := (nCol x)) (b := 2) (by omega) (by omega)).mpr z)
          refine lv_iload_n hx hb dX4_wayOf_66 rfl (lv_at hl 1 rfl) ?_
          refine lv_iconst (v := nI 3) hx hb dX4_wayOf_67 (by decide) ?_
          refine lv_icmp_ne (tgt := 76) hx hb dX4_wayOf_68 (by decide) (fun c_68 => ?_) (fun c_68 => ?_)
          · skip
            have c_68 : ¬ (nCol x) = 3 := fun z => c_68 ((nI_eq (a := (nCol x)) (b := 3) (by omega) (by omega)).mpr z)
            refine lv_bipush (v := nI 16) hx hb dX4_wayOf_76 (by decide) ?_
            refine gc_Si (va_runS (As := [.int (nI 103), .int (nI 2), .int (nI 16)]) (rest := []) ⟨hx, hb, hml, hown, hts⟩ (c_X4_better l D cy 103 2 16 (by decide) (by decide) (by decide)) (va_cwS 3 hts gX4_wayOf_X4_better rfl rfl rfl (by decide +kernel) ⟨Nat.le_of_ble_eq_true rfl, Nat.le_of_ble_eq_true rfl⟩) (gpSR hG (hP.sub [] rfl)) rfl rfl hl.1 rfl (lv_room (Nat.le_of_ble_eq_true rfl)) dX4_wayOf_78 ⟨Nat.zero_le _, Nat.zero_le _⟩) ?_
            refine g_ti (y := nI 103) (by decide) ?_
            refine lv_goto (tgt := 85) hx hb dX4_wayOf_81 (by decide) ?_
            refine lv_istore_n (lv' := [(3, .int (nI 103)), (2, .int (nI (nCol x))), (0, .ref (q 0)), (1, .int (nI c))]) hx hb dX4_wayOf_85 rfl hl (by decide) rfl (fun ls hl => ?_)
            refine lv_iload_n hx hb dX4_wayOf_86 rfl (lv_at hl 0 rfl) ?_
            refine lv_iconst (v := nI 3) hx hb dX4_wayOf_87 (by decide) ?_
            refine lv_iconst (v := nI 1) hx hb dX4_wayOf_88 (by decide) ?_
            refine lv_iconst (v := nI 2) hx hb dX4_wayOf_89 (by decide) ?_
            refine lv_aload_n hx hb dX4_wayOf_90 rfl (lv_at hl 2 rfl) ?_
            refine gc_Si (va_runV (As := []) (rest := [.int (nI 2), .int (nI 1), .int (nI 3), .int (nI 103)]) ⟨hx, hb, hml, hown, hts⟩ (c_X4_countRuns l D cy q T U tl9 x hx9) (cwV 0 hts gX4_wayOf_X4_countRuns rfl rfl rfl (by decide +kernel) ⟨Nat.le_of_ble_eq_true rfl, Nat.le_of_ble_eq_true rfl⟩) (gpVR (ci := 4) (q0 := 0) hG (hP.sub [0, 3] rfl) rfl rfl) rfl rfl hl.1 rfl (lv_room (Nat.le_of_ble_eq_true rfl)) dX4_wayOf_91 ⟨Nat.zero_le _, Nat.zero_le _⟩) ?_
            refine lv_imul hx hb dX4_wayOf_94 ?_
            refine g_ti (y := nI (2 * (nRun x))) (pk_mul _ _) ?_
            refine lv_iadd hx hb dX4_wayOf_95 ?_
            refine g_ti (y := nI (1 + (2 * (nRun x)))) (nI_add _ _) ?_
            refine gc_Si (va_runS (As := [.int (nI 103), .int (nI 3), .int (nI (1 + (2 * (nRun x))))]) (rest := []) ⟨hx, hb, hml, hown, hts⟩ (c_X4_better l D cy 103 3 (1 + (2 * (nRun x))) (by decide) (by decide) (by omega)) (va_cwS 3 hts gX4_wayOf_X4_better rfl rfl rfl (by decide +kernel) ⟨Nat.le_of_ble_eq_true rfl, Nat.le_of_ble_eq_true rfl⟩) (gpSR hG (hP.sub [] rfl)) rfl rfl hl.1 rfl (lv_room (Nat.le_of_ble_eq_true rfl)) dX4_wayOf_96 ⟨Nat.zero_le _, Nat.zero_le _⟩) ?_
            refine lv_istore_n (lv' := [(3, .int (nI (bet 103 3 (1 + (2 * (nRun x)))))), (2, .int (nI (nCol x))), (0, .ref (q 0)), (1, .int (nI c))]) hx hb dX4_wayOf_99 rfl hl (by decide) rfl (fun ls hl => ?_)
            refine lv_iload_n hx hb dX4_wayOf_100 rfl (lv_at hl 0 rfl) ?_
            refine lv_iconst (v := nI 4) hx hb dX4_wayOf_101 (by decide) ?_
            refine lv_bipush (v := nI 17) hx hb dX4_wayOf_102 (by decide) ?_
            refine gc_Si (va_runS (As := [.int (nI (bet 103 3 (1 + (2 * (nRun x))))), .int (nI 4), .int (nI 17)]) (rest := []) ⟨hx, hb, hml, hown, hts⟩ (c_X4_better l D cy (bet 103 3 (1 + (2 * (nRun x)))) 4 17 (bet_lt (by decide) (by decide) (by omega)) (by decide) (by decide)) (va_cwS 3 hts gX4_wayOf_X4_better rfl rfl rfl (by decide +kernel) ⟨Nat.le_of_ble_eq_true rfl, Nat.le_of_ble_eq_true rfl⟩) (gpSR hG (hP.sub [] rfl)) rfl rfl hl.1 rfl (lv_room (Nat.le_of_ble_eq_true rfl)) dX4_wayOf_104 ⟨Nat.zero_le _, Nat.zero_le _⟩) ?_
            exact hret _ _ _ dX4_wayOf_107 (by first | exact way_fin 2 3 10 (if_pos (fnd_ne c_15).1) (if_pos c_31) (ubc_2 (by omega)) (by decide) | exact way_fin 2 3 15 (if_pos (fnd_ne c_15).1) (if_pos c_31) (ubc_3 (by omega)) (by decide) | exact way_fin 2 3 16 (if_pos (fnd_ne c_15).1) (if_pos c_31) (ubc_4 (by omega)) (by decide) | exact way_fin 2 3 99 (if_pos (fnd_ne c_15).1) (if_pos c_31) (ubc_no c_51n) (by decide) | exact way_fin 2 99 10 (if_pos (fnd_ne c_15).1) (if_neg c_31) (ubc_2 (by omega)) (by decide) | exact way_fin 2 99 15 (if_pos (fnd_ne c_15).1) (if_neg c_31) (ubc_3 (by omega)) (by decide) | exact way_fin 2 99 16 (if_pos (fnd_ne c_15).1) (if_neg c_31) (ubc_4 (by omega)) (by decide) | exact way_fin 2 99 99 (if_pos (fnd_ne c_15).1) (if_neg c_31) (ubc_no c_51n) (by decide) | exact way_fin 99 3 10 (if_neg (by have := fnd_eq hC c_15; omega)) (if_pos c_31) (ubc_2 (by omega)) (by decide) | exact way_fin 99 3 15 (if_neg (by have := fnd_eq hC c_15; omega)) (if_pos c_31) (ubc_3 (by omega)) (by decide) | exact way_fin 99 3 16 (if_neg (by have := fnd_eq hC c_15; omega)) (if_pos c_31) (ubc_4 (by omega)) (by decide) | exact way_fin 99 3 99 (if_neg (by have := fnd_eq hC c_15; omega)) (if_pos c_31) (ubc_no c_51n) (by decide) | exact way_fin 99 99 10 (if_neg (by have := fnd_eq hC c_15; omega)) (if_neg c_31) (ubc_2 (by omega)) (by decide) | exact way_fin 99 99 15 (if_neg (by have := fnd_eq hC c_15; omega)) (if_neg c_31) (ubc_3 (by omega)) (by decide) | exact way_fin 99 99 16 (if_neg (by have := fnd_eq hC c_15; omega)) (if_neg c_31) (ubc_4 (by omega)) (by decide) | exact way_fin 99 99 99 (if_neg (by have := fnd_eq hC c_15; omega)) (if_neg c_31) (ubc_no c_51n) (by decide) | (exfalso; omega))
          · skip
            have c_68 : (nCol x) = 3 := (nI_eq (a := (nCol x)) (b := 3) (by omega) (by omega)).mp c_68
            refine lv_bipush (v := nI 15) hx hb dX4_wayOf_71 (by decide) ?_
            refine lv_goto (tgt := 78) hx hb dX4_wayOf_73 (by decide) ?_
            refine gc_Si (va_runS (As := [.int (nI 103), .int (nI 2), .int (nI 15)]) (rest := []) ⟨hx, hb, hml, hown, hts⟩ (c_X4_better l D cy 103 2 15 (by decide) (by decide) (by decide)) (va_cwS 3 hts gX4_wayOf_X4_better rfl rfl rfl (by decide +kernel) ⟨Nat.le_of_ble_eq_true rfl, Nat.le_of_ble_eq_true rfl⟩) (gpSR hG (hP.sub [] rfl)) rfl rfl hl.1 rfl (lv_room (Nat.le_of_ble_eq_true rfl)) dX4_wayOf_78 ⟨Nat.zero_le _, Nat.zero_le _⟩) ?_
            refine g_ti (y := nI 103) (by decide) ?_
            refine lv_goto (tgt := 85) hx hb dX4_wayOf_81 (by decide) ?_
            refine lv_istore_n (lv' := [(3, .int (nI 103)), (2, .int (nI (nCol x))), (0, .ref (q 0)), (1, .int (nI c))]) hx hb dX4_wayOf_85 rfl hl (by decide) rfl (fun ls hl => ?_)
            refine lv_iload_n hx hb dX4_wayOf_86 rfl (lv_at hl 0 rfl) ?_
            refine lv_iconst (v := nI 3) hx hb dX4_wayOf_87 (by decide) ?_
            refine lv_iconst (v := nI 1) hx hb dX4_wayOf_88 (by decide) ?_
            refine lv_iconst (v := nI 2) hx hb dX4_wayOf_89 (by decide) ?_
            refine lv_aload_n hx hb dX4_wayOf_90 rfl (lv_at hl 2 rfl) ?_
            refine gc_Si (va_runV (As := []) (rest := [.int (nI 2), .int (nI 1), .int (nI 3), .int (nI 103)]) ⟨hx, hb, hml, hown, hts⟩ (c_X4_countRuns l D cy q T U tl9 x hx9) (cwV 0 hts gX4_wayOf_X4_countRuns rfl rfl rfl (by decide +kernel) ⟨Nat.le_of_ble_eq_true rfl, Nat.le_of_ble_eq_true rfl⟩) (gpVR (ci := 4) (q0 := 0) hG (hP.sub [0, 3] rfl) rfl rfl) rfl rfl hl.1 rfl (lv_room (Nat.le_of_ble_eq_true rfl)) dX4_wayOf_91 ⟨Nat.zero_le _, Nat.zero_le _⟩) ?_
            refine lv_imul hx hb dX4_wayOf_94 ?_
            refine g_ti (y := nI (2 * (nRun x))) (pk_mul _ _) ?_
            refine lv_iadd hx hb dX4_wayOf_95 ?_
            refine g_ti (y := nI (1 + (2 * (nRun x)))) (nI_add _ _) ?_
            refine gc_Si (va_runS (As := [.int (nI 103), .int (nI 3), .int (nI (1 + (2 * (nRun x))))]) (rest := []) ⟨hx, hb, hml, hown, hts⟩ (c_X4_better l D cy 103 3 (1 + (2 * (nRun x))) (by decide) (by decide) (by omega)) (va_cwS 3 hts gX4_wayOf_X4_better rfl rfl rfl (by decide +kernel) ⟨Nat.le_of_ble_eq_true rfl, Nat.le_of_ble_eq_true rfl⟩) (gpSR hG (hP.sub [] rfl)) rfl rfl hl.1 rfl (lv_room (Nat.le_of_ble_eq_true rfl)) dX4_wayOf_96 ⟨Nat.zero_le _, Nat.zero_le _⟩) ?_
            refine lv_istore_n (lv' := [(3, .int (nI (bet 103 3 (1 + (2 * (nRun x)))))), (2, .int (nI (nCol x))), (0, .ref (q 0)), (1, .int (nI c))]) hx hb dX4_wayOf_99 rfl hl (by decide) rfl (fun ls hl => ?_)
            refine lv_iload_n hx hb dX4_wayOf_100 rfl (lv_at hl 0 rfl) ?_
            refine lv_iconst (v := nI 4) hx hb dX4_wayOf_101 (by decide) ?_
            refine lv_bipush (v := nI 17) hx hb dX4_wayOf_102 (by decide) ?_
            refine gc_Si (va_runS (As := [.int (nI (bet 103 3 (1 + (2 * (nRun x))))), .int (nI 4), .int (nI 17)]) (rest := []) ⟨hx, hb, hml, hown, hts⟩ (c_X4_better l D cy (bet 103 3 (1 + (2 * (nRun x)))) 4 17 (bet_lt (by decide) (by decide) (by omega)) (by decide) (by decide)) (va_cwS 3 hts gX4_wayOf_X4_better rfl rfl rfl (by decide +kernel) ⟨Nat.le_of_ble_eq_true rfl, Nat.le_of_ble_eq_true rfl⟩) (gpSR hG (hP.sub [] rfl)) rfl rfl hl.1 rfl (lv_room (Nat.le_of_ble_eq_true rfl)) dX4_wayOf_104 ⟨Nat.zero_le _, Nat.zero_le _⟩) ?_
            exact hret _ _ _ dX4_wayOf_107 (by first | exact way_fin 2 3 10 (if_pos (fnd_ne c_15).1) (if_pos c_31) (ubc_2 (by omega)) (by decide) | exact way_fin 2 3 15 (if_pos (fnd_ne c_15).1) (if_pos c_31) (ubc_3 (by omega)) (by decide) | exact way_fin 2 3 16 (if_pos (fnd_ne c_15).1) (if_pos c_31) (ubc_4 (by omega)) (by decide) | exact way_fin 2 3 99 (if_pos (fnd_ne c_15).1) (if_pos c_31) (ubc_no c_51n) (by decide) | exact way_fin 2 99 10 (if_pos (fnd_ne c_15).1) (if_neg c_31) (ubc_2 (by omega)) (by decide) | exact way_fin 2 99 15 (if_pos (fnd_ne c_15).1) (if_neg c_31) (ubc_3 (by omega)) (by decide) | exact way_fin 2 99 16 (if_pos (fnd_ne c_15).1) (if_neg c_31) (ubc_4 (by omega)) (by decide) | exact way_fin 2 99 99 (if_pos (fnd_ne c_15).1) (if_neg c_31) (ubc_no c_51n) (by decide) | exact way_fin 99 3 10 (if_neg (by have := fnd_eq hC c_15; omega)) (if_pos c_31) (ubc_2 (by omega)) (by decide) | exact way_fin 99 3 15 (if_neg (by have := fnd_eq hC c_15; omega)) (if_pos c_31) (ubc_3 (by omega)) (by decide) | exact way_fin 99 3 16 (if_neg (by have := fnd_eq hC c_15; omega)) (if_pos c_31) (ubc_4 (by omega)) (by decide) | exact way_fin 99 3 99 (if_neg (by have := fnd_eq hC c_15; omega)) (if_pos c_31) (ubc_no c_51n) (by decide) | exact way_fin 99 99 10 (if_neg (by have := fnd_eq hC c_15; omega)) (if_neg c_31) (ubc_2 (by omega)) (by decide) | exact way_fin 99 99 15 (if_neg (by have := fnd_eq hC c_15; omega)) (if_neg c_31) (ubc_3 (by omega)) (by decide) | exact way_fin 99 99 16 (if_neg (by have := fnd_eq hC c_15; omega)) (if_neg c_31) (ubc_4 (by omega)) (by decide) | exact way_fin 99 99 99 (if_neg (by have := fnd_eq hC c_15; omega)) (if_neg c_31) (ubc_no c_51n) (by decide) | (exfalso; omega))
        · skip
          have c_58 : (nCol x) = 2 := (nI_eq (a := (nCol x)) (b := 2) (by omega) (by omega)).mp c_58
          refine lv_bipush (v := nI 10) hx hb dX4_wayOf_61 (by decide) ?_
          refine lv_goto (tgt := 78) hx hb dX4_wayOf_63 (by decide) ?_
          refine gc_Si (va_runS (As := [.int (nI 103), .int (nI 2), .int (nI 10)]) (rest := []) ⟨hx, hb, hml, hown, hts⟩ (c_X4_better l D cy 103 2 10 (by decide) (by decide) (by decide)) (va_cwS 3 hts gX4_wayOf_X4_better rfl rfl rfl (by decide +kernel) ⟨Nat.le_of_ble_eq_true rfl, Nat.le_of_ble_eq_true rfl⟩) (gpSR hG (hP.sub [] rfl)) rfl rfl hl.1 rfl (lv_room (Nat.le_of_ble_eq_true rfl)) dX4_wayOf_78 ⟨Nat.zero_le _, Nat.zero_le _⟩) ?_
          refine g_ti (y := nI 103) (by decide) ?_
          refine lv_goto (tgt := 85) hx hb dX4_wayOf_81 (by decide) ?_
          refine lv_istore_n (lv' := [(3, .int (nI 103)), (2, .int (nI (nCol x))), (0, .ref (q 0)), (1, .int (nI c))]) hx hb dX4_wayOf_85 rfl hl (by decide) rfl (fun ls hl => ?_)
          refine lv_iload_n hx hb dX4_wayOf_86 rfl (lv_at hl 0 rfl) ?_
          refine lv_iconst (v := nI 3) hx hb dX4_wayOf_87 (by decide) ?_
          refine lv_iconst (v := nI 1) hx hb dX4_wayOf_88 (by decide) ?_
          refine lv_iconst (v := nI 2) hx hb dX4_wayOf_89 (by decide) ?_
          refine lv_aload_n hx hb dX4_wayOf_90 rfl (lv_at hl 2 rfl) ?_
          refine gc_Si (va_runV (As := []) (rest := [.int (nI 2), .int (nI 1), .int (nI 3), .int (nI 103)]) ⟨hx, hb, hml, hown, hts⟩ (c_X4_countRuns l D cy q T U tl9 x hx9) (cwV 0 hts gX4_wayOf_X4_countRuns rfl rfl rfl (by decide +kernel) ⟨Nat.le_of_ble_eq_true rfl, Nat.le_of_ble_eq_true rfl⟩) (gpVR (ci := 4) (q0 := 0) hG (hP.sub [0, 3] rfl) rfl rfl) rfl rfl hl.1 rfl (lv_room (Nat.le_of_ble_eq_true rfl)) dX4_wayOf_91 ⟨Nat.zero_le _, Nat.zero_le _⟩) ?_
          refine lv_imul hx hb dX4_wayOf_94 ?_
          refine g_ti (y := nI (2 * (nRun x))) (pk_mul _ _) ?_
          refine lv_iadd hx hb dX4_wayOf_95 ?_
          refine g_ti (y := nI (1 + (2 * (nRun x)))) (nI_add _ _) ?_
          refine gc_Si (va_runS (As := [.int (nI 103), .int (nI 3), .int (nI (1 + (2 * (nRun x))))]) (rest := []) ⟨hx, hb, hml, hown, hts⟩ (c_X4_better l D cy 103 3 (1 + (2 * (nRun x))) (by decide) (by decide) (by omega)) (va_cwS 3 hts gX4_wayOf_X4_better rfl rfl rfl (by decide +kernel) ⟨Nat.le_of_ble_eq_true rfl, Nat.le_of_ble_eq_true rfl⟩) (gpSR hG (hP.sub [] rfl)) rfl rfl hl.1 rfl (lv_room (Nat.le_of_ble_eq_true rfl)) dX4_wayOf_96 ⟨Nat.zero_le _, Nat.zero_le _⟩) ?_
          refine lv_istore_n (lv' := [(3, .int (nI (bet 103 3 (1 + (2 * (nRun x)))))), (2, .int (nI (nCol x))), (0, .ref (q 0)), (1, .int (nI c))]) hx hb dX4_wayOf_99 rfl hl (by decide) rfl (fun ls hl => ?_)
          refine lv_iload_n hx hb dX4_wayOf_100 rfl (lv_at hl 0 rfl) ?_
          refine lv_iconst (v := nI 4) hx hb dX4_wayOf_101 (by decide) ?_
          refine lv_bipush (v := nI 17) hx hb dX4_wayOf_102 (by decide) ?_
          refine gc_Si (va_runS (As := [.int (nI (bet 103 3 (1 + (2 * (nRun x))))), .int (nI 4), .int (nI 17)]) (rest := []) ⟨hx, hb, hml, hown, hts⟩ (c_X4_better l D cy (bet 103 3 (1 + (2 * (nRun x)))) 4 17 (bet_lt (by decide) (by decide) (by omega)) (by decide) (by decide)) (va_cwS 3 hts gX4_wayOf_X4_better rfl rfl rfl (by decide +kernel) ⟨Nat.le_of_ble_eq_true rfl, Nat.le_of_ble_eq_true rfl⟩) (gpSR hG (hP.sub [] rfl)) rfl rfl hl.1 rfl (lv_room (Nat.le_of_ble_eq_true rfl)) dX4_wayOf_104 ⟨Nat.zero_le _, Nat.zero_le _⟩) ?_
          exact hret _ _ _ dX4_wayOf_107 (by first | exact way_fin 2 3 10 (if_pos (fnd_ne c_15).1) (if_pos c_31) (ubc_2 (by omega)) (by decide) | exact way_fin 2 3 15 (if_pos (fnd_ne c_15).1) (if_pos c_31) (ubc_3 (by omega)) (by decide) | exact way_fin 2 3 16 (if_pos (fnd_ne c_15).1) (if_pos c_31) (ubc_4 (by omega)) (by decide) | exact way_fin 2 3 99 (if_pos (fnd_ne c_15).1) (if_pos c_31) (ubc_no c_51n) (by decide) | exact way_fin 2 99 10 (if_pos (fnd_ne c_15).1) (if_neg c_31) (ubc_2 (by omega)) (by decide) | exact way_fin 2 99 15 (if_pos (fnd_ne c_15).1) (if_neg c_31) (ubc_3 (by omega)) (by decide) | exact way_fin 2 99 16 (if_pos (fnd_ne c_15).1) (if_neg c_31) (ubc_4 (by omega)) (by decide) | exact way_fin 2 99 99 (if_pos (fnd_ne c_15).1) (if_neg c_31) (ubc_no c_51n) (by decide) | exact way_fin 99 3 10 (if_neg (by have := fnd_eq hC c_15; omega)) (if_pos c_31) (ubc_2 (by omega)) (by decide) | exact way_fin 99 3 15 (if_neg (by have := fnd_eq hC c_15; omega)) (if_pos c_31) (ubc_3 (by omega)) (by decide) | exact way_fin 99 3 16 (if_neg (by have := fnd_eq hC c_15; omega)) (if_pos c_31) (ubc_4 (by omega)) (by decide) | exact way_fin 99 3 99 (if_neg (by have := fnd_eq hC c_15; omega)) (if_pos c_31) (ubc_no c_51n) (by decide) | exact way_fin 99 99 10 (if_neg (by have := fnd_eq hC c_15; omega)) (if_neg c_31) (ubc_2 (by omega)) (by decide) | exact way_fin 99 99 15 (if_neg (by have := fnd_eq hC c_15; omega)) (if_neg c_31) (ubc_3 (by omega)) (by decide) | exact way_fin 99 99 16 (if_neg (by have := fnd_eq hC c_15; omega)) (if_neg c_31) (ubc_4 (by omega)) (by decide) | exact way_fin 99 99 99 (if_neg (by have := fnd_eq hC c_15; omega)) (if_neg c_31) (ubc_no c_51n) (by decide) | (exfalso; omega))
  · skip
    refine lv_iload_n hx hb dX4_wayOf_18 rfl (lv_at hl 0 rfl) ?_
    refine lv_iconst (v := nI 0) hx hb dX4_wayOf_19 (by decide) ?_
    refine lv_iconst (v := nI 2) hx hb dX4_wayOf_20 (by decide) ?_
    refine gc_Si (va_runS (As := [.int (nI 499), .int (nI 0), .int (nI 2)]) (rest := []) ⟨hx, hb, hml, hown, hts⟩ (c_X4_better l D cy 499 0 2 (by decide) (by decide) (by decide)) (va_cwS 3 hts gX4_wayOf_X4_better rfl rfl rfl (by decide +kernel) ⟨Nat.le_of_ble_eq_true rfl, Nat.le_of_ble_eq_true rfl⟩) (gpSR hG (hP.sub [] rfl)) rfl rfl hl.1 rfl (lv_room (Nat.le_of_ble_eq_true rfl)) dX4_wayOf_21 ⟨Nat.zero_le _, Nat.zero_le _⟩) ?_
    refine g_ti (y := nI 2) (by decide) ?_
    refine lv_goto (tgt := 28) hx hb dX4_wayOf_24 (by decide) ?_
    refine lv_istore_n (lv' := [(3, .int (nI 2)), (2, .int (nI (nCol x))), (0, .ref (q 0)), (1, .int (nI c))]) hx hb dX4_wayOf_28 rfl hl (by decide) rfl (fun ls hl => ?_)
    refine lv_iload_n hx hb dX4_wayOf_29 rfl (lv_at hl 1 rfl) ?_
    refine lv_iconst (v := nI 1) hx hb dX4_wayOf_30 (by decide) ?_
    refine lv_icmp_ne (tgt := 43) hx hb dX4_wayOf_31 (by decide) (fun c_31 => ?_) (fun c_31 => ?_)
    · skip
      have c_31 : ¬ (nCol x) = 1 := fun z => c_31 ((nI_eq (a := (nCol x)) (b := 1) (by omega) (by omega)).mpr z)
      refine lv_iload_n hx hb dX4_wayOf_43 rfl (lv_at hl 0 rfl) ?_
      refine lv_istore_n (lv' := [(3, .int (nI 2)), (2, .int (nI (nCol x))), (0, .ref (q 0)), (1, .int (nI c))]) hx hb dX4_wayOf_44 rfl hl (by decide) rfl (fun ls hl => ?_)
      refine lv_iload_n hx hb dX4_wayOf_45 rfl (lv_at hl 1 rfl) ?_
      refine lv_iconst (v := nI 2) hx hb dX4_wayOf_46 (by decide) ?_
      refine lv_iconst (v := nI 4) hx hb dX4_wayOf_47 (by decide) ?_
      refine gc_Si (va_runS (As := [.int (nI (nCol x)), .int (nI 2), .int (nI 4)]) (rest := []) ⟨hx, hb, hml, hown, hts⟩ (c_X4_in l D cy (nI (nCol x)) (nI 2) (nI 4)) (va_cwS 3 hts gX4_wayOf_X4_in rfl rfl rfl (by decide +kernel) ⟨Nat.le_of_ble_eq_true rfl, Nat.le_of_ble_eq_true rfl⟩) (gpSR hG (hP.sub [] rfl)) rfl rfl hl.1 rfl (lv_room (Nat.le_of_ble_eq_true rfl)) dX4_wayOf_48 ⟨Nat.zero_le _, Nat.zero_le _⟩) ?_
      refine g_ti (y := gb (pIn (nI (nCol x)) 2 4)) ((congrArg (fun z => gb (pIn (nI (nCol x)) z (nI 4 : Int32).toInt)) (by decide : (nI 2 : Int32).toInt = 2)).trans (congrArg (fun z => gb (pIn (nI (nCol x)) 2 z)) (by decide : (nI 4 : Int32).toInt = 4))) ?_
      refine lv_if_eq (tgt := 84) hx hb dX4_wayOf_51 (by decide) (fun c_51 => ?_) (fun c_51 => ?_)
      · skip
        have c_51 : ¬ (pIn (nI (nCol x)) 2 4) := gb_eq0.mp c_51
        have c_51n : ¬ (2 ≤ nCol x ∧ nCol x ≤ 4) := fun z => c_51 ⟨by rw [z3]; omega, by rw [z3]; omega⟩
        refine lv_iload_n hx hb dX4_wayOf_84 rfl (lv_at hl 0 rfl) ?_
        refine lv_istore_n (lv' := [(3, .int (nI 2)), (2, .int (nI (nCol x))), (0, .ref (q 0)), (1, .int (nI c))]) hx hb dX4_wayOf_85 rfl hl (by decide) rfl (fun ls hl => ?_)
        refine lv_iload_n hx hb dX4_wayOf_86 rfl (lv_at hl 0 rfl) ?_
        refine lv_iconst (v := nI 3) hx hb dX4_wayOf_87 (by decide) ?_
        refine lv_iconst (v := nI 1) hx hb dX4_wayOf_88 (by decide) ?_
        refine lv_iconst (v := nI 2) hx hb dX4_wayOf_89 (by decide) ?_
        refine lv_aload_n hx hb dX4_wayOf_90 rfl (lv_at hl 2 rfl) ?_
        refine gc_Si (va_runV (As := []) (rest := [.int (nI 2), .int (nI 1), .int (nI 3), .int (nI 2)]) ⟨hx, hb, hml, hown, hts⟩ (c_X4_countRuns l D cy q T U tl9 x hx9) (cwV 0 hts gX4_wayOf_X4_countRuns rfl rfl rfl (by decide +kernel) ⟨Nat.le_of_ble_eq_true rfl, Nat.le_of_ble_eq_true rfl⟩) (gpVR (ci := 4) (q0 := 0) hG (hP.sub [0, 3] rfl) rfl rfl) rfl rfl hl.1 rfl (lv_room (Nat.le_of_ble_eq_true rfl)) dX4_wayOf_91 ⟨Nat.zero_le _, Nat.zero_le _⟩) ?_
        refine lv_imul hx hb dX4_wayOf_94 ?_
        refine g_ti (y := nI (2 * (nRun x))) (pk_mul _ _) ?_
        refine lv_iadd hx hb dX4_wayOf_95 ?_
        refine g_ti (y := nI (1 + (2 * (nRun x)))) (nI_add _ _) ?_
        refine gc_Si (va_runS (As := [.int (nI 2), .int (nI 3), .int (nI (1 + (2 * (nRun x))))]) (rest := []) ⟨hx, hb, hml, hown, hts⟩ (c_X4_better l D cy 2 3 (1 + (2 * (nRun x))) (by decide) (by decide) (by omega)) (va_cwS 3 hts gX4_wayOf_X4_better rfl rfl rfl (by decide +kernel) ⟨Nat.le_of_ble_eq_true rfl, Nat.le_of_ble_eq_true rfl⟩) (gpSR hG (hP.sub [] rfl)) rfl rfl hl.1 rfl (lv_room (Nat.le_of_ble_eq_true rfl)) dX4_wayOf_96 ⟨Nat.zero_le _, Nat.zero_le _⟩) ?_
        refine lv_istore_n (lv' := [(3, .int (nI (bet 2 3 (1 + (2 * (nRun x)))))), (2, .int (nI (nCol x))), (0, .ref (q 0)), (1, .int (nI c))]) hx hb dX4_wayOf_99 rfl hl (by decide) rfl (fun ls hl => ?_)
        refine lv_iload_n hx hb dX4_wayOf_100 rfl (lv_at hl 0 rfl) ?_
        refine lv_iconst (v := nI 4) hx hb dX4_wayOf_101 (by decide) ?_
        refine lv_bipush (v := nI 17) hx hb dX4_wayOf_102 (by decide) ?_
        refine gc_Si (va_runS (As := [.int (nI (bet 2 3 (1 + (2 * (nRun x))))), .int (nI 4), .int (nI 17)]) (rest := []) ⟨hx, hb, hml, hown, hts⟩ (c_X4_better l D cy (bet 2 3 (1 + (2 * (nRun x)))) 4 17 (bet_lt (by decide) (by decide) (by omega)) (by decide) (by decide)) (va_cwS 3 hts gX4_wayOf_X4_better rfl rfl rfl (by decide +kernel) ⟨Nat.le_of_ble_eq_true rfl, Nat.le_of_ble_eq_true rfl⟩) (gpSR hG (hP.sub [] rfl)) rfl rfl hl.1 rfl (lv_room (Nat.le_of_ble_eq_true rfl)) dX4_wayOf_104 ⟨Nat.zero_le _, Nat.zero_le _⟩) ?_
        exact hret _ _ _ dX4_wayOf_107 (by first | exact way_fin 2 3 10 (if_pos (fnd_ne c_15).1) (if_pos c_31) (ubc_2 (by omega)) (by decide) | exact way_fin 2 3 15 (if_pos (fnd_ne c_15).1) (if_pos c_31) (ubc_3 (by omega)) (by decide) | exact way_fin 2 3 16 (if_pos (fnd_ne c_15).1) (if_pos c_31) (ubc_4 (by omega)) (by decide) | exact way_fin 2 3 99 (if_pos (fnd_ne c_15).1) (if_pos c_31) (ubc_no c_51n) (by decide) | exact way_fin 2 99 10 (if_pos (fnd_ne c_15).1) (if_neg c_31) (ubc_2 (by omega)) (by decide) | exact way_fin 2 99 15 (if_pos (fnd_ne c_15).1) (if_neg c_31) (ubc_3 (by omega)) (by decide) | exact way_fin 2 99 16 (if_pos (fnd_ne c_15).1) (if_neg c_31) (ubc_4 (by omega)) (by decide) | exact way_fin 2 99 99 (if_pos (fnd_ne c_15).1) (if_neg c_31) (ubc_no c_51n) (by decide) | exact way_fin 99 3 10 (if_neg (by have := fnd_eq hC c_15; omega)) (if_pos c_31) (ubc_2 (by omega)) (by decide) | exact way_fin 99 3 15 (if_neg (by have := fnd_eq hC c_15; omega)) (if_pos c_31) (ubc_3 (by omega)) (by decide) | exact way_fin 99 3 16 (if_neg (by have := fnd_eq hC c_15; omega)) (if_pos c_31) (ubc_4 (by omega)) (by decide) | exact way_fin 99 3 99 (if_neg (by have := fnd_eq hC c_15; omega)) (if_pos c_31) (ubc_no c_51n) (by decide) | exact way_fin 99 99 10 (if_neg (by have := fnd_eq hC c_15; omega)) (if_neg c_31) (ubc_2 (by omega)) (by decide) | exact way_fin 99 99 15 (if_neg (by have := fnd_eq hC c_15; omega)) (if_neg c_31) (ubc_3 (by omega)) (by decide) | exact way_fin 99 99 16 (if_neg (by have := fnd_eq hC c_15; omega)) (if_neg c_31) (ubc_4 (by omega)) (by decide) | exact way_fin 99 99 99 (if_neg (by have := fnd_eq hC c_15; omega)) (if_neg c_31) (ubc_no c_51n) (by decide) | (exfalso; omega))
      · skip
        have c_51 : pIn (nI (nCol x)) 2 4 := gb_ne0.mp c_51
        have c_51y : 2 ≤ nCol x ∧ nCol x ≤ 4 := by have q1 := c_51.1; have q2 := c_51.2; rw [z3] at q1 q2; exact ⟨by omega, by omega⟩
        refine lv_iload_n hx hb dX4_wayOf_54 rfl (lv_at hl 0 rfl) ?_
        refine lv_iconst (v := nI 2) hx hb dX4_wayOf_55 (by decide) ?_
        refine lv_iload_n hx hb dX4_wayOf_56 rfl (lv_at hl 1 rfl) ?_
        refine lv_iconst (v := nI 2) hx hb dX4_wayOf_57 (by decide) ?_
        refine lv_icmp_ne (tgt := 66) hx hb dX4_wayOf_58 (by decide) (fun c_58 => ?_) (fun c_58 => ?_)
        · skip
          have c_58 : ¬ (nCol x) = 2 := fun z => c_58 ((nI_eq (a := (nCol x)) (b := 2) (by omega) (by omega)).mpr z)
          refine lv_iload_n hx hb dX4_wayOf_66 rfl (lv_at hl 1 rfl) ?_
          refine lv_iconst (v := nI 3) hx hb dX4_wayOf_67 (by decide) ?_
          refine lv_icmp_ne (tgt := 76) hx hb dX4_wayOf_68 (by decide) (fun c_68 => ?_) (fun c_68 => ?_)
          · skip
            have c_68 : ¬ (nCol x) = 3 := fun z => c_68 ((nI_eq (a := (nCol x)) (b := 3) (by omega) (by omega)).mpr z)
            refine lv_bipush (v := nI 16) hx hb dX4_wayOf_76 (by decide) ?_
            refine gc_Si (va_runS (As := [.int (nI 2), .int (nI 2), .int (nI 16)]) (rest := []) ⟨hx, hb, hml, hown, hts⟩ (c_X4_better l D cy 2 2 16 (by decide) (by decide) (by decide)) (va_cwS 3 hts gX4_wayOf_X4_better rfl rfl rfl (by decide +kernel) ⟨Nat.le_of_ble_eq_true rfl, Nat.le_of_ble_eq_true rfl⟩) (gpSR hG (hP.sub [] rfl)) rfl rfl hl.1 rfl (lv_room (Nat.le_of_ble_eq_true rfl)) dX4_wayOf_78 ⟨Nat.zero_le _, Nat.zero_le _⟩) ?_
            refine g_ti (y := nI 2) (by decide) ?_
            refine lv_goto (tgt := 85) hx hb dX4_wayOf_81 (by decide) ?_
            refine lv_istore_n (lv' := [(3, .int (nI 2)), (2, .int (nI (nCol x))), (0, .ref (q 0)), (1, .int (nI c))]) hx hb dX4_wayOf_85 rfl hl (by decide) rfl (fun ls hl => ?_)
            refine lv_iload_n hx hb dX4_wayOf_86 rfl (lv_at hl 0 rfl) ?_
            refine lv_iconst (v := nI 3) hx hb dX4_wayOf_87 (by decide) ?_
            refine lv_iconst (v := nI 1) hx hb dX4_wayOf_88 (by decide) ?_
            refine lv_iconst (v := nI 2) hx hb dX4_wayOf_89 (by decide) ?_
            refine lv_aload_n hx hb dX4_wayOf_90 rfl (lv_at hl 2 rfl) ?_
            refine gc_Si (va_runV (As := []) (rest := [.int (nI 2), .int (nI 1), .int (nI 3), .int (nI 2)]) ⟨hx, hb, hml, hown, hts⟩ (c_X4_countRuns l D cy q T U tl9 x hx9) (cwV 0 hts gX4_wayOf_X4_countRuns rfl rfl rfl (by decide +kernel) ⟨Nat.le_of_ble_eq_true rfl, Nat.le_of_ble_eq_true rfl⟩) (gpVR (ci := 4) (q0 := 0) hG (hP.sub [0, 3] rfl) rfl rfl) rfl rfl hl.1 rfl (lv_room (Nat.le_of_ble_eq_true rfl)) dX4_wayOf_91 ⟨Nat.zero_le _, Nat.zero_le _⟩) ?_
            refine lv_imul hx hb dX4_wayOf_94 ?_
            refine g_ti (y := nI (2 * (nRun x))) (pk_mul _ _) ?_
            refine lv_iadd hx hb dX4_wayOf_95 ?_
            refine g_ti (y := nI (1 + (2 * (nRun x)))) (nI_add _ _) ?_
            refine gc_Si (va_runS (As := [.int (nI 2), .int (nI 3), .int (nI (1 + (2 * (nRun x))))]) (rest := []) ⟨hx, hb, hml, hown, hts⟩ (c_X4_better l D cy 2 3 (1 + (2 * (nRun x))) (by decide) (by decide) (by omega)) (va_cwS 3 hts gX4_wayOf_X4_better rfl rfl rfl (by decide +kernel) ⟨Nat.le_of_ble_eq_true rfl, Nat.le_of_ble_eq_true rfl⟩) (gpSR hG (hP.sub [] rfl)) rfl rfl hl.1 rfl (lv_room (Nat.le_of_ble_eq_true rfl)) dX4_wayOf_96 ⟨Nat.zero_le _, Nat.zero_le _⟩) ?_
            refine lv_istore_n (lv' := [(3, .int (nI (bet 2 3 (1 + (2 * (nRun x)))))), (2, .int (nI (nCol x))), (0, .ref (q 0)), (1, .int (nI c))]) hx hb dX4_wayOf_99 rfl hl (by decide) rfl (fun ls hl => ?_)
            refine lv_iload_n hx hb dX4_wayOf_100 rfl (lv_at hl 0 rfl) ?_
            refine lv_iconst (v := nI 4) hx hb dX4_wayOf_101 (by decide) ?_
            refine lv_bipush (v := nI 17) hx hb dX4_wayOf_102 (by decide) ?_
            refine gc_Si (va_runS (As := [.int (nI (bet 2 3 (1 + (2 * (nRun x))))), .int (nI 4), .int (nI 17)]) (rest := []) ⟨hx, hb, hml, hown, hts⟩ (c_X4_better l D cy (bet 2 3 (1 + (2 * (nRun x)))) 4 17 (bet_lt (by decide) (by decide) (by omega)) (by decide) (by decide)) (va_cwS 3 hts gX4_wayOf_X4_better rfl rfl rfl (by decide +kernel) ⟨Nat.le_of_ble_eq_true rfl, Nat.le_of_ble_eq_true rfl⟩) (gpSR hG (hP.sub [] rfl)) rfl rfl hl.1 rfl (lv_room (Nat.le_of_ble_eq_true rfl)) dX4_wayOf_104 ⟨Nat.zero_le _, Nat.zero_le _⟩) ?_
            exact hret _ _ _ dX4_wayOf_107 (by first | exact way_fin 2 3 10 (if_pos (fnd_ne c_15).1) (if_pos c_31) (ubc_2 (by omega)) (by decide) | exact way_fin 2 3 15 (if_pos (fnd_ne c_15).1) (if_pos c_31) (ubc_3 (by omega)) (by decide) | exact way_fin 2 3 16 (if_pos (fnd_ne c_15).1) (if_pos c_31) (ubc_4 (by omega)) (by decide) | exact way_fin 2 3 99 (if_pos (fnd_ne c_15).1) (if_pos c_31) (ubc_no c_51n) (by decide) | exact way_fin 2 99 10 (if_pos (fnd_ne c_15).1) (if_neg c_31) (ubc_2 (by omega)) (by decide) | exact way_fin 2 99 15 (if_pos (fnd_ne c_15).1) (if_neg c_31) (ubc_3 (by omega)) (by decide) | exact way_fin 2 99 16 (if_pos (fnd_ne c_15).1) (if_neg c_31) (ubc_4 (by omega)) (by decide) | exact way_fin 2 99 99 (if_pos (fnd_ne c_15).1) (if_neg c_31) (ubc_no c_51n) (by decide) | exact way_fin 99 3 10 (if_neg (by have := fnd_eq hC c_15; omega)) (if_pos c_31) (ubc_2 (by omega)) (by decide) | exact way_fin 99 3 15 (if_neg (by have := fnd_eq hC c_15; omega)) (if_pos c_31) (ubc_3 (by omega)) (by decide) | exact way_fin 99 3 16 (if_neg (by have := fnd_eq hC c_15; omega)) (if_pos c_31) (ubc_4 (by omega)) (by decide) | exact way_fin 99 3 99 (if_neg (by have := fnd_eq hC c_15; omega)) (if_pos c_31) (ubc_no c_51n) (by decide) | exact way_fin 99 99 10 (if_neg (by have := fnd_eq hC c_15; omega)) (if_neg c_31) (ubc_2 (by omega)) (by decide) | exact way_fin 99 99 15 (if_neg (by have := fnd_eq hC c_15; omega)) (if_neg c_31) (ubc_3 (by omega)) (by decide) | exact way_fin 99 99 16 (if_neg (by have := fnd_eq hC c_15; omega)) (if_neg c_31) (ubc_4 (by omega)) (by decide) | exact way_fin 99 99 99 (if_neg (by have := fnd_eq hC c_15; omega)) (if_neg c_31) (ubc_no c_51n) (by decide) | (exfalso; omega))
          · skip
            have c_68 : (nCol x) = 3 := (nI_eq (a := (nCol x)) (b := 3) (by omega) (by omega)).mp c_68
            refine lv_bipush (v := nI 15) hx hb dX4_wayOf_71 (by decide) ?_
            refine lv_goto (tgt := 78) hx hb dX4_wayOf_73 (by decide) ?_
            refine gc_Si (va_runS (As := [.int (nI 2), .int (nI 2), .int (nI 15)]) (rest := []) ⟨hx, hb, hml, hown, hts⟩ (c_X4_better l D cy 2 2 15 (by decide) (by decide) (by decide)) (va_cwS 3 hts gX4_wayOf_X4_better rfl rfl rfl (by decide +kernel) ⟨Nat.le_of_ble_eq_true rfl, Nat.le_of_ble_eq_true rfl⟩) (gpSR hG (hP.sub [] rfl)) rfl rfl hl.1 rfl (lv_room (Nat.le_of_ble_eq_true rfl)) dX4_wayOf_78 ⟨Nat.zero_le _, Nat.zero_le _⟩) ?_
            refine g_ti (y := nI 2) (by decide) ?_
            refine lv_goto (tgt := 85) hx hb dX4_wayOf_81 (by decide) ?_
            refine lv_istore_n (lv' := [(3, .int (nI 2)), (2, .int (nI (nCol x))), (0, .ref (q 0)), (1, .int (nI c))]) hx hb dX4_wayOf_85 rfl hl (by decide) rfl (fun ls hl => ?_)
            refine lv_iload_n hx hb dX4_wayOf_86 rfl (lv_at hl 0 rfl) ?_
            refine lv_iconst (v := nI 3) hx hb dX4_wayOf_87 (by decide) ?_
            refine lv_iconst (v := nI 1) hx hb dX4_wayOf_88 (by decide) ?_
            refine lv_iconst (v := nI 2) hx hb dX4_wayOf_89 (by decide) ?_
            refine lv_aload_n hx hb dX4_wayOf_90 rfl (lv_at hl 2 rfl) ?_
            refine gc_Si (va_runV (As := []) (rest := [.int (nI 2), .int (nI 1), .int (nI 3), .int (nI 2)]) ⟨hx, hb, hml, hown, hts⟩ (c_X4_countRuns l D cy q T U tl9 x hx9) (cwV 0 hts gX4_wayOf_X4_countRuns rfl rfl rfl (by decide +kernel) ⟨Nat.le_of_ble_eq_true rfl, Nat.le_of_ble_eq_true rfl⟩) (gpVR (ci := 4) (q0 := 0) hG (hP.sub [0, 3] rfl) rfl rfl) rfl rfl hl.1 rfl (lv_room (Nat.le_of_ble_eq_true rfl)) dX4_wayOf_91 ⟨Nat.zero_le _, Nat.zero_le _⟩) ?_
            refine lv_imul hx hb dX4_wayOf_94 ?_
            refine g_ti (y := nI (2 * (nRun x))) (pk_mul _ _) ?_
            refine lv_iadd hx hb dX4_wayOf_95 ?_
            refine g_ti (y := nI (1 + (2 * (nRun x)))) (nI_add _ _) ?_
            refine gc_Si (va_runS (As := [.int (nI 2), .int (nI 3), .int (nI (1 + (2 * (nRun x))))]) (rest := []) ⟨hx, hb, hml, hown, hts⟩ (c_X4_better l D cy 2 3 (1 + (2 * (nRun x))) (by decide) (by decide) (by omega)) (va_cwS 3 hts gX4_wayOf_X4_better rfl rfl rfl (by decide +kernel) ⟨Nat.le_of_ble_eq_true rfl, Nat.le_of_ble_eq_true rfl⟩) (gpSR hG (hP.sub [] rfl)) rfl rfl hl.1 rfl (lv_room (Nat.le_of_ble_eq_true rfl)) dX4_wayOf_96 ⟨Nat.zero_le _, Nat.zero_le _⟩) ?_
            refine lv_istore_n (lv' := [(3, .int (nI (bet 2 3 (1 + (2 * (nRun x)))))), (2, .int (nI (nCol x))), (0, .ref (q 0)), (1, .int (nI c))]) hx hb dX4_wayOf_99 rfl hl (by decide) rfl (fun ls hl => ?_)
            refine lv_iload_n hx hb dX4_wayOf_100 rfl (lv_at hl 0 rfl) ?_
            refine lv_iconst (v := nI 4) hx hb dX4_wayOf_101 (by decide) ?_
            refine lv_bipush (v := nI 17) hx hb dX4_wayOf_102 (by decide) ?_
            refine gc_Si (va_runS (As := [.int (nI (bet 2 3 (1 + (2 * (nRun x))))), .int (nI 4), .int (nI 17)]) (rest := []) ⟨hx, hb, hml, hown, hts⟩ (c_X4_better l D cy (bet 2 3 (1 + (2 * (nRun x)))) 4 17 (bet_lt (by decide) (by decide) (by omega)) (by decide) (by decide)) (va_cwS 3 hts gX4_wayOf_X4_better rfl rfl rfl (by decide +kernel) ⟨Nat.le_of_ble_eq_true rfl, Nat.le_of_ble_eq_true rfl⟩) (gpSR hG (hP.sub [] rfl)) rfl rfl hl.1 rfl (lv_room (Nat.le_of_ble_eq_true rfl)) dX4_wayOf_104 ⟨Nat.zero_le _, Nat.zero_le _⟩) ?_
            exact hret _ _ _ dX4_wayOf_107 (by first | exact way_fin 2 3 10 (if_pos (fnd_ne c_15).1) (if_pos c_31) (ubc_2 (by omega)) (by decide) | exact way_fin 2 3 15 (if_pos (fnd_ne c_15).1) (if_pos c_31) (ubc_3 (by omega)) (by decide) | exact way_fin 2 3 16 (if_pos (fnd_ne c_15).1) (if_pos c_31) (ubc_4 (by omega)) (by decide) | exact way_fin 2 3 99 (if_pos (fnd_ne c_15).1) (if_pos c_31) (ubc_no c_51n) (by decide) | exact way_fin 2 99 10 (if_pos (fnd_ne c_15).1) (if_neg c_31) (ubc_2 (by omega)) (by decide) | exact way_fin 2 99 15 (if_pos (fnd_ne c_15).1) (if_neg c_31) (ubc_3 (by omega)) (by decide) | exact way_fin 2 99 16 (if_pos (fnd_ne c_15).1) (if_neg c_31) (ubc_4 (by omega)) (by decide) | exact way_fin 2 99 99 (if_pos (fnd_ne c_15).1) (if_neg c_31) (ubc_no c_51n) (by decide) | exact way_fin 99 3 10 (if_neg (by have := fnd_eq hC c_15; omega)) (if_pos c_31) (ubc_2 (by omega)) (by decide) | exact way_fin 99 3 15 (if_neg (by have := fnd_eq hC c_15; omega)) (if_pos c_31) (ubc_3 (by omega)) (by decide) | exact way_fin 99 3 16 (if_neg (by have := fnd_eq hC c_15; omega)) (if_pos c_31) (ubc_4 (by omega)) (by decide) | exact way_fin 99 3 99 (if_neg (by have := fnd_eq hC c_15; omega)) (if_pos c_31) (ubc_no c_51n) (by decide) | exact way_fin 99 99 10 (if_neg (by have := fnd_eq hC c_15; omega)) (if_neg c_31) (ubc_2 (by omega)) (by decide) | exact way_fin 99 99 15 (if_neg (by have := fnd_eq hC c_15; omega)) (if_neg c_31) (ubc_3 (by omega)) (by decide) | exact way_fin 99 99 16 (if_neg (by have := fnd_eq hC c_15; omega)) (if_neg c_31) (ubc_4 (by omega)) (by decide) | exact way_fin 99 99 99 (if_neg (by have := fnd_eq hC c_15; omega)) (if_neg c_31) (ubc_no c_51n) (by decide) | (exfalso; omega))
        · skip
          have c_58 : (nCol x) = 2 := (nI_eq (a := (nCol x)) (b := 2) (by omega) (by omega)).mp c_58
          refine lv_bipush (v := nI 10) hx hb dX4_wayOf_61 (by decide) ?_
          refine lv_goto (tgt := 78) hx hb dX4_wayOf_63 (by decide) ?_
          refine gc_Si (va_runS (As := [.int (nI 2), .int (nI 2), .int (nI 10)]) (rest := []) ⟨hx, hb, hml, hown, hts⟩ (c_X4_better l D cy 2 2 10 (by decide) (by decide) (by decide)) (va_cwS 3 hts gX4_wayOf_X4_better rfl rfl rfl (by decide +kernel) ⟨Nat.le_of_ble_eq_true rfl, Nat.le_of_ble_eq_true rfl⟩) (gpSR hG (hP.sub [] rfl)) rfl rfl hl.1 rfl (lv_room (Nat.le_of_ble_eq_true rfl)) dX4_wayOf_78 ⟨Nat.zero_le _, Nat.zero_le _⟩) ?_
          refine g_ti (y := nI 2) (by decide) ?_
          refine lv_goto (tgt := 85) hx hb dX4_wayOf_81 (by decide) ?_
          refine lv_istore_n (lv' := [(3, .int (nI 2)), (2, .int (nI (nCol x))), (0, .ref (q 0)), (1, .int (nI c))]) hx hb dX4_wayOf_85 rfl hl (by decide) rfl (fun ls hl => ?_)
          refine lv_iload_n hx hb dX4_wayOf_86 rfl (lv_at hl 0 rfl) ?_
          refine lv_iconst (v := nI 3) hx hb dX4_wayOf_87 (by decide) ?_
          refine lv_iconst (v := nI 1) hx hb dX4_wayOf_88 (by decide) ?_
          refine lv_iconst (v := nI 2) hx hb dX4_wayOf_89 (by decide) ?_
          refine lv_aload_n hx hb dX4_wayOf_90 rfl (lv_at hl 2 rfl) ?_
          refine gc_Si (va_runV (As := []) (rest := [.int (nI 2), .int (nI 1), .int (nI 3), .int (nI 2)]) ⟨hx, hb, hml, hown, hts⟩ (c_X4_countRuns l D cy q T U tl9 x hx9) (cwV 0 hts gX4_wayOf_X4_countRuns rfl rfl rfl (by decide +kernel) ⟨Nat.le_of_ble_eq_true rfl, Nat.le_of_ble_eq_true rfl⟩) (gpVR (ci := 4) (q0 := 0) hG (hP.sub [0, 3] rfl) rfl rfl) rfl rfl hl.1 rfl (lv_room (Nat.le_of_ble_eq_true rfl)) dX4_wayOf_91 ⟨Nat.zero_le _, Nat.zero_le _⟩) ?_
          refine lv_imul hx hb dX4_wayOf_94 ?_
          refine g_ti (y := nI (2 * (nRun x))) (pk_mul _ _) ?_
          refine lv_iadd hx hb dX4_wayOf_95 ?_
          refine g_ti (y := nI (1 + (2 * (nRun x)))) (nI_add _ _) ?_
          refine gc_Si (va_runS (As := [.int (nI 2), .int (nI 3), .int (nI (1 + (2 * (nRun x))))]) (rest := []) ⟨hx, hb, hml, hown, hts⟩ (c_X4_better l D cy 2 3 (1 + (2 * (nRun x))) (by decide) (by decide) (by omega)) (va_cwS 3 hts gX4_wayOf_X4_better rfl rfl rfl (by decide +kernel) ⟨Nat.le_of_ble_eq_true rfl, Nat.le_of_ble_eq_true rfl⟩) (gpSR hG (hP.sub [] rfl)) rfl rfl hl.1 rfl (lv_room (Nat.le_of_ble_eq_true rfl)) dX4_wayOf_96 ⟨Nat.zero_le _, Nat.zero_le _⟩) ?_
          refine lv_istore_n (lv' := [(3, .int (nI (bet 2 3 (1 + (2 * (nRun x)))))), (2, .int (nI (nCol x))), (0, .ref (q 0)), (1, .int (nI c))]) hx hb dX4_wayOf_99 rfl hl (by decide) rfl (fun ls hl => ?_)
          refine lv_iload_n hx hb dX4_wayOf_100 rfl (lv_at hl 0 rfl) ?_
          refine lv_iconst (v := nI 4) hx hb dX4_wayOf_101 (by decide) ?_
          refine lv_bipush (v := nI 17) hx hb dX4_wayOf_102 (by decide) ?_
          refine gc_Si (va_runS (As := [.int (nI (bet 2 3 (1 + (2 * (nRun x))))), .int (nI 4), .int (nI 17)]) (rest := []) ⟨hx, hb, hml, hown, hts⟩ (c_X4_better l D cy (bet 2 3 (1 + (2 * (nRun x)))) 4 17 (bet_lt (by decide) (by decide) (by omega)) (by decide) (by decide)) (va_cwS 3 hts gX4_wayOf_X4_better rfl rfl rfl (by decide +kernel) ⟨Nat.le_of_ble_eq_true rfl, Nat.le_of_ble_eq_true rfl⟩) (gpSR hG (hP.sub [] rfl)) rfl rfl hl.1 rfl (lv_room (Nat.le_of_ble_eq_true rfl)) dX4_wayOf_104 ⟨Nat.zero_le _, Nat.zero_le _⟩) ?_
          exact hret _ _ _ dX4_wayOf_107 (by first | exact way_fin 2 3 10 (if_pos (fnd_ne c_15).1) (if_pos c_31) (ubc_2 (by omega)) (by decide) | exact way_fin 2 3 15 (if_pos (fnd_ne c_15).1) (if_pos c_31) (ubc_3 (by omega)) (by decide) | exact way_fin 2 3 16 (if_pos (fnd_ne c_15).1) (if_pos c_31) (ubc_4 (by omega)) (by decide) | exact way_fin 2 3 99 (if_pos (fnd_ne c_15).1) (if_pos c_31) (ubc_no c_51n) (by decide) | exact way_fin 2 99 10 (if_pos (fnd_ne c_15).1) (if_neg c_31) (ubc_2 (by omega)) (by decide) | exact way_fin 2 99 15 (if_pos (fnd_ne c_15).1) (if_neg c_31) (ubc_3 (by omega)) (by decide) | exact way_fin 2 99 16 (if_pos (fnd_ne c_15).1) (if_neg c_31) (ubc_4 (by omega)) (by decide) | exact way_fin 2 99 99 (if_pos (fnd_ne c_15).1) (if_neg c_31) (ubc_no c_51n) (by decide) | exact way_fin 99 3 10 (if_neg (by have := fnd_eq hC c_15; omega)) (if_pos c_31) (ubc_2 (by omega)) (by decide) | exact way_fin 99 3 15 (if_neg (by have := fnd_eq hC c_15; omega)) (if_pos c_31) (ubc_3 (by omega)) (by decide) | exact way_fin 99 3 16 (if_neg (by have := fnd_eq hC c_15; omega)) (if_pos c_31) (ubc_4 (by omega)) (by decide) | exact way_fin 99 3 99 (if_neg (by have := fnd_eq hC c_15; omega)) (if_pos c_31) (ubc_no c_51n) (by decide) | exact way_fin 99 99 10 (if_neg (by have := fnd_eq hC c_15; omega)) (if_neg c_31) (ubc_2 (by omega)) (by decide) | exact way_fin 99 99 15 (if_neg (by have := fnd_eq hC c_15; omega)) (if_neg c_31) (ubc_3 (by omega)) (by decide) | exact way_fin 99 99 16 (if_neg (by have := fnd_eq hC c_15; omega)) (if_neg c_31) (ubc_4 (by omega)) (by decide) | exact way_fin 99 99 99 (if_neg (by have := fnd_eq hC c_15; omega)) (if_neg c_31) (ubc_no c_51n) (by decide) | (exfalso; omega))
    · skip
      have c_31 : (nCol x) = 1 := (nI_eq (a := (nCol x)) (b := 1) (by omega) (by omega)).mp c_31
      refine lv_iload_n hx hb dX4_wayOf_34 rfl (lv_at hl 0 rfl) ?_
      refine lv_iconst (v := nI 1) hx hb dX4_wayOf_35 (by decide) ?_
      refine lv_iconst (v := nI 3) hx hb dX4_wayOf_36 (by decide) ?_
      refine gc_Si (va_runS (As := [.int (nI 2), .int (nI 1), .int (nI 3)]) (rest := []) ⟨hx, hb, hml, hown, hts⟩ (c_X4_better l D cy 2 1 3 (by decide) (by decide) (by decide)) (va_cwS 3 hts gX4_wayOf_X4_better rfl rfl rfl (by decide +kernel) ⟨Nat.le_of_ble_eq_true rfl, Nat.le_of_ble_eq_true rfl⟩) (gpSR hG (hP.sub [] rfl)) rfl rfl hl.1 rfl (lv_room (Nat.le_of_ble_eq_true rfl)) dX4_wayOf_37 ⟨Nat.zero_le _, Nat.zero_le _⟩) ?_
      refine g_ti (y := nI 2) (by decide) ?_
      refine lv_goto (tgt := 44) hx hb dX4_wayOf_40 (by decide) ?_
      refine lv_istore_n (lv' := [(3, .int (nI 2)), (2, .int (nI (nCol x))), (0, .ref (q 0)), (1, .int (nI c))]) hx hb dX4_wayOf_44 rfl hl (by decide) rfl (fun ls hl => ?_)
      refine lv_iload_n hx hb dX4_wayOf_45 rfl (lv_at hl 1 rfl) ?_
      refine lv_iconst (v := nI 2) hx hb dX4_wayOf_46 (by decide) ?_
      refine lv_iconst (v := nI 4) hx hb dX4_wayOf_47 (by decide) ?_
      refine gc_Si (va_runS (As := [.int (nI (nCol x)), .int (nI 2), .int (nI 4)]) (rest := []) ⟨hx, hb, hml, hown, hts⟩ (c_X4_in l D cy (nI (nCol x)) (nI 2) (nI 4)) (va_cwS 3 hts gX4_wayOf_X4_in rfl rfl rfl (by decide +kernel) ⟨Nat.le_of_ble_eq_true rfl, Nat.le_of_ble_eq_true rfl⟩) (gpSR hG (hP.sub [] rfl)) rfl rfl hl.1 rfl (lv_room (Nat.le_of_ble_eq_true rfl)) dX4_wayOf_48 ⟨Nat.zero_le _, Nat.zero_le _⟩) ?_
      refine g_ti (y := gb (pIn (nI (nCol x)) 2 4)) ((congrArg (fun z => gb (pIn (nI (nCol x)) z (nI 4 : Int32).toInt)) (by decide : (nI 2 : Int32).toInt = 2)).trans (congrArg (fun z => gb (pIn (nI (nCol x)) 2 z)) (by decide : (nI 4 : Int32).toInt = 4))) ?_
      refine lv_if_eq (tgt := 84) hx hb dX4_wayOf_51 (by decide) (fun c_51 => ?_) (fun c_51 => ?_)
      · skip
        have c_51 : ¬ (pIn (nI (nCol x)) 2 4) := gb_eq0.mp c_51
        have c_51n : ¬ (2 ≤ nCol x ∧ nCol x ≤ 4) := fun z => c_51 ⟨by rw [z3]; omega, by rw [z3]; omega⟩
        refine lv_iload_n hx hb dX4_wayOf_84 rfl (lv_at hl 0 rfl) ?_
        refine lv_istore_n (lv' := [(3, .int (nI 2)), (2, .int (nI (nCol x))), (0, .ref (q 0)), (1, .int (nI c))]) hx hb dX4_wayOf_85 rfl hl (by decide) rfl (fun ls hl => ?_)
        refine lv_iload_n hx hb dX4_wayOf_86 rfl (lv_at hl 0 rfl) ?_
        refine lv_iconst (v := nI 3) hx hb dX4_wayOf_87 (by decide) ?_
        refine lv_iconst (v := nI 1) hx hb dX4_wayOf_88 (by decide) ?_
        refine lv_iconst (v := nI 2) hx hb dX4_wayOf_89 (by decide) ?_
        refine lv_aload_n hx hb dX4_wayOf_90 rfl (lv_at hl 2 rfl) ?_
        refine gc_Si (va_runV (As := []) (rest := [.int (nI 2), .int (nI 1), .int (nI 3), .int (nI 2)]) ⟨hx, hb, hml, hown, hts⟩ (c_X4_countRuns l D cy q T U tl9 x hx9) (cwV 0 hts gX4_wayOf_X4_countRuns rfl rfl rfl (by decide +kernel) ⟨Nat.le_of_ble_eq_true rfl, Nat.le_of_ble_eq_true rfl⟩) (gpVR (ci := 4) (q0 := 0) hG (hP.sub [0, 3] rfl) rfl rfl) rfl rfl hl.1 rfl (lv_room (Nat.le_of_ble_eq_true rfl)) dX4_wayOf_91 ⟨Nat.zero_le _, Nat.zero_le _⟩) ?_
        refine lv_imul hx hb dX4_wayOf_94 ?_
        refine g_ti (y := nI (2 * (nRun x))) (pk_mul _ _) ?_
        refine lv_iadd hx hb dX4_wayOf_95 ?_
        refine g_ti (y := nI (1 + (2 * (nRun x)))) (nI_add _ _) ?_
        refine gc_Si (va_runS (As := [.int (nI 2), .int (nI 3), .int (nI (1 + (2 * (nRun x))))]) (rest := []) ⟨hx, hb, hml, hown, hts⟩ (c_X4_better l D cy 2 3 (1 + (2 * (nRun x))) (by decide) (by decide) (by omega)) (va_cwS 3 hts gX4_wayOf_X4_better rfl rfl rfl (by decide +kernel) ⟨Nat.le_of_ble_eq_true rfl, Nat.le_of_ble_eq_true rfl⟩) (gpSR hG (hP.sub [] rfl)) rfl rfl hl.1 rfl (lv_room (Nat.le_of_ble_eq_true rfl)) dX4_wayOf_96 ⟨Nat.zero_le _, Nat.zero_le _⟩) ?_
        refine lv_istore_n (lv' := [(3, .int (nI (bet 2 3 (1 + (2 * (nRun x)))))), (2, .int (nI (nCol x))), (0, .ref (q 0)), (1, .int (nI c))]) hx hb dX4_wayOf_99 rfl hl (by decide) rfl (fun ls hl => ?_)
        refine lv_iload_n hx hb dX4_wayOf_100 rfl (lv_at hl 0 rfl) ?_
        refine lv_iconst (v := nI 4) hx hb dX4_wayOf_101 (by decide) ?_
        refine lv_bipush (v := nI 17) hx hb dX4_wayOf_102 (by decide) ?_
        refine gc_Si (va_runS (As := [.int (nI (bet 2 3 (1 + (2 * (nRun x))))), .int (nI 4), .int (nI 17)]) (rest := []) ⟨hx, hb, hml, hown, hts⟩ (c_X4_better l D cy (bet 2 3 (1 + (2 * (nRun x)))) 4 17 (bet_lt (by decide) (by decide) (by omega)) (by decide) (by decide)) (va_cwS 3 hts gX4_wayOf_X4_better rfl rfl rfl (by decide +kernel) ⟨Nat.le_of_ble_eq_true rfl, Nat.le_of_ble_eq_true rfl⟩) (gpSR hG (hP.sub [] rfl)) rfl rfl hl.1 rfl (lv_room (Nat.le_of_ble_eq_true rfl)) dX4_wayOf_104 ⟨Nat.zero_le _, Nat.zero_le _⟩) ?_
        exact hret _ _ _ dX4_wayOf_107 (by first | exact way_fin 2 3 10 (if_pos (fnd_ne c_15).1) (if_pos c_31) (ubc_2 (by omega)) (by decide) | exact way_fin 2 3 15 (if_pos (fnd_ne c_15).1) (if_pos c_31) (ubc_3 (by omega)) (by decide) | exact way_fin 2 3 16 (if_pos (fnd_ne c_15).1) (if_pos c_31) (ubc_4 (by omega)) (by decide) | exact way_fin 2 3 99 (if_pos (fnd_ne c_15).1) (if_pos c_31) (ubc_no c_51n) (by decide) | exact way_fin 2 99 10 (if_pos (fnd_ne c_15).1) (if_neg c_31) (ubc_2 (by omega)) (by decide) | exact way_fin 2 99 15 (if_pos (fnd_ne c_15).1) (if_neg c_31) (ubc_3 (by omega)) (by decide) | exact way_fin 2 99 16 (if_pos (fnd_ne c_15).1) (if_neg c_31) (ubc_4 (by omega)) (by decide) | exact way_fin 2 99 99 (if_pos (fnd_ne c_15).1) (if_neg c_31) (ubc_no c_51n) (by decide) | exact way_fin 99 3 10 (if_neg (by have := fnd_eq hC c_15; omega)) (if_pos c_31) (ubc_2 (by omega)) (by decide) | exact way_fin 99 3 15 (if_neg (by have := fnd_eq hC c_15; omega)) (if_pos c_31) (ubc_3 (by omega)) (by decide) | exact way_fin 99 3 16 (if_neg (by have := fnd_eq hC c_15; omega)) (if_pos c_31) (ubc_4 (by omega)) (by decide) | exact way_fin 99 3 99 (if_neg (by have := fnd_eq hC c_15; omega)) (if_pos c_31) (ubc_no c_51n) (by decide) | exact way_fin 99 99 10 (if_neg (by have := fnd_eq hC c_15; omega)) (if_neg c_31) (ubc_2 (by omega)) (by decide) | exact way_fin 99 99 15 (if_neg (by have := fnd_eq hC c_15; omega)) (if_neg c_31) (ubc_3 (by omega)) (by decide) | exact way_fin 99 99 16 (if_neg (by have := fnd_eq hC c_15; omega)) (if_neg c_31) (ubc_4 (by omega)) (by decide) | exact way_fin 99 99 99 (if_neg (by have := fnd_eq hC c_15; omega)) (if_neg c_31) (ubc_no c_51n) (by decide) | (exfalso; omega))
      · skip
        have c_51 : pIn (nI (nCol x)) 2 4 := gb_ne0.mp c_51
        have c_51y : 2 ≤ nCol x ∧ nCol x ≤ 4 := by have q1 := c_51.1; have q2 := c_51.2; rw [z3] at q1 q2; exact ⟨by omega, by omega⟩
        refine lv_iload_n hx hb dX4_wayOf_54 rfl (lv_at hl 0 rfl) ?_
        refine lv_iconst (v := nI 2) hx hb dX4_wayOf_55 (by decide) ?_
        refine lv_iload_n hx hb dX4_wayOf_56 rfl (lv_at hl 1 rfl) ?_
        refine lv_iconst (v := nI 2) hx hb dX4_wayOf_57 (by decide) ?_
        refine lv_icmp_ne (tgt := 66) hx hb dX4_wayOf_58 (by decide) (fun c_58 => ?_) (fun c_58 => ?_)
        · skip
          have c_58 : ¬ (nCol x) = 2 := fun z => c_58 ((nI_eq (a := (nCol x)) (b := 2) (by omega) (by omega)).mpr z)
          refine lv_iload_n hx hb dX4_wayOf_66 rfl (lv_at hl 1 rfl) ?_
          refine lv_iconst (v := nI 3) hx hb dX4_wayOf_67 (by decide) ?_
          refine lv_icmp_ne (tgt := 76) hx hb dX4_wayOf_68 (by decide) (fun c_68 => ?_) (fun c_68 => ?_)
          · skip
            have c_68 : ¬ (nCol x) = 3 := fun z => c_68 ((nI_eq (a := (nCol x)) (b := 3) (by omega) (by omega)).mpr z)
            refine lv_bipush (v := nI 16) hx hb dX4_wayOf_76 (by decide) ?_
            refine gc_Si (va_runS (As := [.int (nI 2), .int (nI 2), .int (nI 16)]) (rest := []) ⟨hx, hb, hml, hown, hts⟩ (c_X4_better l D cy 2 2 16 (by decide) (by decide) (by decide)) (va_cwS 3 hts gX4_wayOf_X4_better rfl rfl rfl (by decide +kernel) ⟨Nat.le_of_ble_eq_true rfl, Nat.le_of_ble_eq_true rfl⟩) (gpSR hG (hP.sub [] rfl)) rfl rfl hl.1 rfl (lv_room (Nat.le_of_ble_eq_true rfl)) dX4_wayOf_78 ⟨Nat.zero_le _, Nat.zero_le _⟩) ?_
            refine g_ti (y := nI 2) (by decide) ?_
            refine lv_goto (tgt := 85) hx hb dX4_wayOf_81 (by decide) ?_
            refine lv_istore_n (lv' := [(3, .int (nI 2)), (2, .int (nI (nCol x))), (0, .ref (q 0)), (1, .int (nI c))]) hx hb dX4_wayOf_85 rfl hl (by decide) rfl (fun ls hl => ?_)
            refine lv_iload_n hx hb dX4_wayOf_86 rfl (lv_at hl 0 rfl) ?_
            refine lv_iconst (v := nI 3) hx hb dX4_wayOf_87 (by decide) ?_
            refine lv_iconst (v := nI 1) hx hb dX4_wayOf_88 (by decide) ?_
            refine lv_iconst (v := nI 2) hx hb dX4_wayOf_89 (by decide) ?_
            refine lv_aload_n hx hb dX4_wayOf_90 rfl (lv_at hl 2 rfl) ?_
            refine gc_Si (va_runV (As := []) (rest := [.int (nI 2), .int (nI 1), .int (nI 3), .int (nI 2)]) ⟨hx, hb, hml, hown, hts⟩ (c_X4_countRuns l D cy q T U tl9 x hx9) (cwV 0 hts gX4_wayOf_X4_countRuns rfl rfl rfl (by decide +kernel) ⟨Nat.le_of_ble_eq_true rfl, Nat.le_of_ble_eq_true rfl⟩) (gpVR (ci := 4) (q0 := 0) hG (hP.sub [0, 3] rfl) rfl rfl) rfl rfl hl.1 rfl (lv_room (Nat.le_of_ble_eq_true rfl)) dX4_wayOf_91 ⟨Nat.zero_le _, Nat.zero_le _⟩) ?_
            refine lv_imul hx hb dX4_wayOf_94 ?_
            refine g_ti (y := nI (2 * (nRun x))) (pk_mul _ _) ?_
            refine lv_iadd hx hb dX4_wayOf_95 ?_
            refine g_ti (y := nI (1 + (2 * (nRun x)))) (nI_add _ _) ?_
            refine gc_Si (va_runS (As := [.int (nI 2), .int (nI 3), .int (nI (1 + (2 * (nRun x))))]) (rest := []) ⟨hx, hb, hml, hown, hts⟩ (c_X4_better l D cy 2 3 (1 + (2 * (nRun x))) (by decide) (by decide) (by omega)) (va_cwS 3 hts gX4_wayOf_X4_better rfl rfl rfl (by decide +kernel) ⟨Nat.le_of_ble_eq_true rfl, Nat.le_of_ble_eq_true rfl⟩) (gpSR hG (hP.sub [] rfl)) rfl rfl hl.1 rfl (lv_room (Nat.le_of_ble_eq_true rfl)) dX4_wayOf_96 ⟨Nat.zero_le _, Nat.zero_le _⟩) ?_
            refine lv_istore_n (lv' := [(3, .int (nI (bet 2 3 (1 + (2 * (nRun x)))))), (2, .int (nI (nCol x))), (0, .ref (q 0)), (1, .int (nI c))]) hx hb dX4_wayOf_99 rfl hl (by decide) rfl (fun ls hl => ?_)
            refine lv_iload_n hx hb dX4_wayOf_100 rfl (lv_at hl 0 rfl) ?_
            refine lv_iconst (v := nI 4) hx hb dX4_wayOf_101 (by decide) ?_
            refine lv_bipush (v := nI 17) hx hb dX4_wayOf_102 (by decide) ?_
            refine gc_Si (va_runS (As := [.int (nI (bet 2 3 (1 + (2 * (nRun x))))), .int (nI 4), .int (nI 17)]) (rest := []) ⟨hx, hb, hml, hown, hts⟩ (c_X4_better l D cy (bet 2 3 (1 + (2 * (nRun x)))) 4 17 (bet_lt (by decide) (by decide) (by omega)) (by decide) (by decide)) (va_cwS 3 hts gX4_wayOf_X4_better rfl rfl rfl (by decide +kernel) ⟨Nat.le_of_ble_eq_true rfl, Nat.le_of_ble_eq_true rfl⟩) (gpSR hG (hP.sub [] rfl)) rfl rfl hl.1 rfl (lv_room (Nat.le_of_ble_eq_true rfl)) dX4_wayOf_104 ⟨Nat.zero_le _, Nat.zero_le _⟩) ?_
            exact hret _ _ _ dX4_wayOf_107 (by first | exact way_fin 2 3 10 (if_pos (fnd_ne c_15).1) (if_pos c_31) (ubc_2 (by omega)) (by decide) | exact way_fin 2 3 15 (if_pos (fnd_ne c_15).1) (if_pos c_31) (ubc_3 (by omega)) (by decide) | exact way_fin 2 3 16 (if_pos (fnd_ne c_15).1) (if_pos c_31) (ubc_4 (by omega)) (by decide) | exact way_fin 2 3 99 (if_pos (fnd_ne c_15).1) (if_pos c_31) (ubc_no c_51n) (by decide) | exact way_fin 2 99 10 (if_pos (fnd_ne c_15).1) (if_neg c_31) (ubc_2 (by omega)) (by decide) | exact way_fin 2 99 15 (if_pos (fnd_ne c_15).1) (if_neg c_31) (ubc_3 (by omega)) (by decide) | exact way_fin 2 99 16 (if_pos (fnd_ne c_15).1) (if_neg c_31) (ubc_4 (by omega)) (by decide) | exact way_fin 2 99 99 (if_pos (fnd_ne c_15).1) (if_neg c_31) (ubc_no c_51n) (by decide) | exact way_fin 99 3 10 (if_neg (by have := fnd_eq hC c_15; omega)) (if_pos c_31) (ubc_2 (by omega)) (by decide) | exact way_fin 99 3 15 (if_neg (by have := fnd_eq hC c_15; omega)) (if_pos c_31) (ubc_3 (by omega)) (by decide) | exact way_fin 99 3 16 (if_neg (by have := fnd_eq hC c_15; omega)) (if_pos c_31) (ubc_4 (by omega)) (by decide) | exact way_fin 99 3 99 (if_neg (by have := fnd_eq hC c_15; omega)) (if_pos c_31) (ubc_no c_51n) (by decide) | exact way_fin 99 99 10 (if_neg (by have := fnd_eq hC c_15; omega)) (if_neg c_31) (ubc_2 (by omega)) (by decide) | exact way_fin 99 99 15 (if_neg (by have := fnd_eq hC c_15; omega)) (if_neg c_31) (ubc_3 (by omega)) (by decide) | exact way_fin 99 99 16 (if_neg (by have := fnd_eq hC c_15; omega)) (if_neg c_31) (ubc_4 (by omega)) (by decide) | exact way_fin 99 99 99 (if_neg (by have := fnd_eq hC c_15; omega)) (if_neg c_31) (ubc_no c_51n) (by decide) | (exfalso; omega))
          · skip
            have c_68 : (nCol x) = 3 := (nI_eq (a := (nCol x)) (b := 3) (by omega) (by omega)).mp c_68
            refine lv_bipush (v := nI 15) hx hb dX4_wayOf_71 (by decide) ?_
            refine lv_goto (tgt := 78) hx hb dX4_wayOf_73 (by decide) ?_
            refine gc_Si (va_runS (As := [.int (nI 2), .int (nI 2), .int (nI 15)]) (rest := []) ⟨hx, hb, hml, hown, hts⟩ (c_X4_better l D cy 2 2 15 (by decide) (by decide) (by decide)) (va_cwS 3 hts gX4_wayOf_X4_better rfl rfl rfl (by decide +kernel) ⟨Nat.le_of_ble_eq_true rfl, Nat.le_of_ble_eq_true rfl⟩) (gpSR hG (hP.sub [] rfl)) rfl rfl hl.1 rfl (lv_room (Nat.le_of_ble_eq_true rfl)) dX4_wayOf_78 ⟨Nat.zero_le _, Nat.zero_le _⟩) ?_
            refine g_ti (y := nI 2) (by decide) ?_
            refine lv_goto (tgt := 85) hx hb dX4_wayOf_81 (by decide) ?_
            refine lv_istore_n (lv' := [(3, .int (nI 2)), (2, .int (nI (nCol x))), (0, .ref (q 0)), (1, .int (nI c))]) hx hb dX4_wayOf_85 rfl hl (by decide) rfl (fun ls hl => ?_)
            refine lv_iload_n hx hb dX4_wayOf_86 rfl (lv_at hl 0 rfl) ?_
            refine lv_iconst (v := nI 3) hx hb dX4_wayOf_87 (by decide) ?_
            refine lv_iconst (v := nI 1) hx hb dX4_wayOf_88 (by decide) ?_
            refine lv_iconst (v := nI 2) hx hb dX4_wayOf_89 (by decide) ?_
            refine lv_aload_n hx hb dX4_wayOf_90 rfl (lv_at hl 2 rfl) ?_
            refine gc_Si (va_runV (As := []) (rest := [.int (nI 2), .int (nI 1), .int (nI 3), .int (nI 2)]) ⟨hx, hb, hml, hown, hts⟩ (c_X4_countRuns l D cy q T U tl9 x hx9) (cwV 0 hts gX4_wayOf_X4_countRuns rfl rfl rfl (by decide +kernel) ⟨Nat.le_of_ble_eq_true rfl, Nat.le_of_ble_eq_true rfl⟩) (gpVR (ci := 4) (q0 := 0) hG (hP.sub [0, 3] rfl) rfl rfl) rfl rfl hl.1 rfl (lv_room (Nat.le_of_ble_eq_true rfl)) dX4_wayOf_91 ⟨Nat.zero_le _, Nat.zero_le _⟩) ?_
            refine lv_imul hx hb dX4_wayOf_94 ?_
            refine g_ti (y := nI (2 * (nRun x))) (pk_mul _ _) ?_
            refine lv_iadd hx hb dX4_wayOf_95 ?_
            refine g_ti (y := nI (1 + (2 * (nRun x)))) (nI_add _ _) ?_
            refine gc_Si (va_runS (As := [.int (nI 2), .int (nI 3), .int (nI (1 + (2 * (nRun x))))]) (rest := []) ⟨hx, hb, hml, hown, hts⟩ (c_X4_better l D cy 2 3 (1 + (2 * (nRun x))) (by decide) (by decide) (by omega)) (va_cwS 3 hts gX4_wayOf_X4_better rfl rfl rfl (by decide +kernel) ⟨Nat.le_of_ble_eq_true rfl, Nat.le_of_ble_eq_true rfl⟩) (gpSR hG (hP.sub [] rfl)) rfl rfl hl.1 rfl (lv_room (Nat.le_of_ble_eq_true rfl)) dX4_wayOf_96 ⟨Nat.zero_le _, Nat.zero_le _⟩) ?_
            refine lv_istore_n (lv' := [(3, .int (nI (bet 2 3 (1 + (2 * (nRun x)))))), (2, .int (nI (nCol x))), (0, .ref (q 0)), (1, .int (nI c))]) hx hb dX4_wayOf_99 rfl hl (by decide) rfl (fun ls hl => ?_)
            refine lv_iload_n hx hb dX4_wayOf_100 rfl (lv_at hl 0 rfl) ?_
            refine lv_iconst (v := nI 4) hx hb dX4_wayOf_101 (by decide) ?_
            refine lv_bipush (v := nI 17) hx hb dX4_wayOf_102 (by decide) ?_
            refine gc_Si (va_runS (As := [.int (nI (bet 2 3 (1 + (2 * (nRun x))))), .int (nI 4), .int (nI 17)]) (rest := []) ⟨hx, hb, hml, hown, hts⟩ (c_X4_better l D cy (bet 2 3 (1 + (2 * (nRun x)))) 4 17 (bet_lt (by decide) (by decide) (by omega)) (by decide) (by decide)) (va_cwS 3 hts gX4_wayOf_X4_better rfl rfl rfl (by decide +kernel) ⟨Nat.le_of_ble_eq_true rfl, Nat.le_of_ble_eq_true rfl⟩) (gpSR hG (hP.sub [] rfl)) rfl rfl hl.1 rfl (lv_room (Nat.le_of_ble_eq_true rfl)) dX4_wayOf_104 ⟨Nat.zero_le _, Nat.zero_le _⟩) ?_
            exact hret _ _ _ dX4_wayOf_107 (by first | exact way_fin 2 3 10 (if_pos (fnd_ne c_15).1) (if_pos c_31) (ubc_2 (by omega)) (by decide) | exact way_fin 2 3 15 (if_pos (fnd_ne c_15).1) (if_pos c_31) (ubc_3 (by omega)) (by decide) | exact way_fin 2 3 16 (if_pos (fnd_ne c_15).1) (if_pos c_31) (ubc_4 (by omega)) (by decide) | exact way_fin 2 3 99 (if_pos (fnd_ne c_15).1) (if_pos c_31) (ubc_no c_51n) (by decide) | exact way_fin 2 99 10 (if_pos (fnd_ne c_15).1) (if_neg c_31) (ubc_2 (by omega)) (by decide) | exact way_fin 2 99 15 (if_pos (fnd_ne c_15).1) (if_neg c_31) (ubc_3 (by omega)) (by decide) | exact way_fin 2 99 16 (if_pos (fnd_ne c_15).1) (if_neg c_31) (ubc_4 (by omega)) (by decide) | exact way_fin 2 99 99 (if_pos (fnd_ne c_15).1) (if_neg c_31) (ubc_no c_51n) (by decide) | exact way_fin 99 3 10 (if_neg (by have := fnd_eq hC c_15; omega)) (if_pos c_31) (ubc_2 (by omega)) (by decide) | exact way_fin 99 3 15 (if_neg (by have := fnd_eq hC c_15; omega)) (if_pos c_31) (ubc_3 (by omega)) (by decide) | exact way_fin 99 3 16 (if_neg (by have := fnd_eq hC c_15; omega)) (if_pos c_31) (ubc_4 (by omega)) (by decide) | exact way_fin 99 3 99 (if_neg (by have := fnd_eq hC c_15; omega)) (if_pos c_31) (ubc_no c_51n) (by decide) | exact way_fin 99 99 10 (if_neg (by have := fnd_eq hC c_15; omega)) (if_neg c_31) (ubc_2 (by omega)) (by decide) | exact way_fin 99 99 15 (if_neg (by have := fnd_eq hC c_15; omega)) (if_neg c_31) (ubc_3 (by omega)) (by decide) | exact way_fin 99 99 16 (if_neg (by have := fnd_eq hC c_15; omega)) (if_neg c_31) (ubc_4 (by omega)) (by decide) | exact way_fin 99 99 99 (if_neg (by have := fnd_eq hC c_15; omega)) (if_neg c_31) (ubc_no c_51n) (by decide) | (exfalso; omega))
        · skip
          have c_58 : (nCol x) = 2 := (nI_eq (a := (nCol x)) (b := 2) (by omega) (by omega)).mp c_58
          refine lv_bipush (v := nI 10) hx hb dX4_wayOf_61 (by decide) ?_
          refine lv_goto (tgt := 78) hx hb dX4_wayOf_63 (by decide) ?_
          refine gc_Si (va_runS (As := [.int (nI 2), .int (nI 2), .int (nI 10)]) (rest := []) ⟨hx, hb, hml, hown, hts⟩ (c_X4_better l D cy 2 2 10 (by decide) (by decide) (by decide)) (va_cwS 3 hts gX4_wayOf_X4_better rfl rfl rfl (by decide +kernel) ⟨Nat.le_of_ble_eq_true rfl, Nat.le_of_ble_eq_true rfl⟩) (gpSR hG (hP.sub [] rfl)) rfl rfl hl.1 rfl (lv_room (Nat.le_of_ble_eq_true rfl)) dX4_wayOf_78 ⟨Nat.zero_le _, Nat.zero_le _⟩) ?_
          refine g_ti (y := nI 2) (by decide) ?_
          refine lv_goto (tgt := 85) hx hb dX4_wayOf_81 (by decide) ?_
          refine lv_istore_n (lv' := [(3, .int (nI 2)), (2, .int (nI (nCol x))), (0, .ref (q 0)), (1, .int (nI c))]) hx hb dX4_wayOf_85 rfl hl (by decide) rfl (fun ls hl => ?_)
          refine lv_iload_n hx hb dX4_wayOf_86 rfl (lv_at hl 0 rfl) ?_
          refine lv_iconst (v := nI 3) hx hb dX4_wayOf_87 (by decide) ?_
          refine lv_iconst (v := nI 1) hx hb dX4_wayOf_88 (by decide) ?_
          refine lv_iconst (v := nI 2) hx hb dX4_wayOf_89 (by decide) ?_
          refine lv_aload_n hx hb dX4_wayOf_90 rfl (lv_at hl 2 rfl) ?_
          refine gc_Si (va_runV (As := []) (rest := [.int (nI 2), .int (nI 1), .int (nI 3), .int (nI 2)]) ⟨hx, hb, hml, hown, hts⟩ (c_X4_countRuns l D cy q T U tl9 x hx9) (cwV 0 hts gX4_wayOf_X4_countRuns rfl rfl rfl (by decide +kernel) ⟨Nat.le_of_ble_eq_true rfl, Nat.le_of_ble_eq_true rfl⟩) (gpVR (ci := 4) (q0 := 0) hG (hP.sub [0, 3] rfl) rfl rfl) rfl rfl hl.1 rfl (lv_room (Nat.le_of_ble_eq_true rfl)) dX4_wayOf_91 ⟨Nat.zero_le _, Nat.zero_le _⟩) ?_
          refine lv_imul hx hb dX4_wayOf_94 ?_
          refine g_ti (y := nI (2 * (nRun x))) (pk_mul _ _) ?_
          refine lv_iadd hx hb dX4_wayOf_95 ?_
          refine g_ti (y := nI (1 + (2 * (nRun x)))) (nI_add _ _) ?_
          refine gc_Si (va_runS (As := [.int (nI 2), .int (nI 3), .int (nI (1 + (2 * (nRun x))))]) (rest := []) ⟨hx, hb, hml, hown, hts⟩ (c_X4_better l D cy 2 3 (1 + (2 * (nRun x))) (by decide) (by decide) (by omega)) (va_cwS 3 hts gX4_wayOf_X4_better rfl rfl rfl (by decide +kernel) ⟨Nat.le_of_ble_eq_true rfl, Nat.le_of_ble_eq_true rfl⟩) (gpSR hG (hP.sub [] rfl)) rfl rfl hl.1 rfl (lv_room (Nat.le_of_ble_eq_true rfl)) dX4_wayOf_96 ⟨Nat.zero_le _, Nat.zero_le _⟩) ?_
          refine lv_istore_n (lv' := [(3, .int (nI (bet 2 3 (1 + (2 * (nRun x)))))), (2, .int (nI (nCol x))), (0, .ref (q 0)), (1, .int (nI c))]) hx hb dX4_wayOf_99 rfl hl (by decide) rfl (fun ls hl => ?_)
          refine lv_iload_n hx hb dX4_wayOf_100 rfl (lv_at hl 0 rfl) ?_
          refine lv_iconst (v := nI 4) hx hb dX4_wayOf_101 (by decide) ?_
          refine lv_bipush (v := nI 17) hx hb dX4_wayOf_102 (by decide) ?_
          refine gc_Si (va_runS (As := [.int (nI (bet 2 3 (1 + (2 * (nRun x))))), .int (nI 4), .int (nI 17)]) (rest := []) ⟨hx, hb, hml, hown, hts⟩ (c_X4_better l D cy (bet 2 3 (1 + (2 * (nRun x)))) 4 17 (bet_lt (by decide) (by decide) (by omega)) (by decide) (by decide)) (va_cwS 3 hts gX4_wayOf_X4_better rfl rfl rfl (by decide +kernel) ⟨Nat.le_of_ble_eq_true rfl, Nat.le_of_ble_eq_true rfl⟩) (gpSR hG (hP.sub [] rfl)) rfl rfl hl.1 rfl (lv_room (Nat.le_of_ble_eq_true rfl)) dX4_wayOf_104 ⟨Nat.zero_le _, Nat.zero_le _⟩) ?_
          exact hret _ _ _ dX4_wayOf_107 (by first | exact way_fin 2 3 10 (if_pos (fnd_ne c_15).1) (if_pos c_31) (ubc_2 (by omega)) (by decide) | exact way_fin 2 3 15 (if_pos (fnd_ne c_15).1) (if_pos c_31) (ubc_3 (by omega)) (by decide) | exact way_fin 2 3 16 (if_pos (fnd_ne c_15).1) (if_pos c_31) (ubc_4 (by omega)) (by decide) | exact way_fin 2 3 99 (if_pos (fnd_ne c_15).1) (if_pos c_31) (ubc_no c_51n) (by decide) | exact way_fin 2 99 10 (if_pos (fnd_ne c_15).1) (if_neg c_31) (ubc_2 (by omega)) (by decide) | exact way_fin 2 99 15 (if_pos (fnd_ne c_15).1) (if_neg c_31) (ubc_3 (by omega)) (by decide) | exact way_fin 2 99 16 (if_pos (fnd_ne c_15).1) (if_neg c_31) (ubc_4 (by omega)) (by decide) | exact way_fin 2 99 99 (if_pos (fnd_ne c_15).1) (if_neg c_31) (ubc_no c_51n) (by decide) | exact way_fin 99 3 10 (if_neg (by have := fnd_eq hC c_15; omega)) (if_pos c_31) (ubc_2 (by omega)) (by decide) | exact way_fin 99 3 15 (if_neg (by have := fnd_eq hC c_15; omega)) (if_pos c_31) (ubc_3 (by omega)) (by decide) | exact way_fin 99 3 16 (if_neg (by have := fnd_eq hC c_15; omega)) (if_pos c_31) (ubc_4 (by omega)) (by decide) | exact way_fin 99 3 99 (if_neg (by have := fnd_eq hC c_15; omega)) (if_pos c_31) (ubc_no c_51n) (by decide) | exact way_fin 99 99 10 (if_neg (by have := fnd_eq hC c_15; omega)) (if_neg c_31) (ubc_2 (by omega)) (by decide) | exact way_fin 99 99 15 (if_neg (by have := fnd_eq hC c_15; omega)) (if_neg c_31) (ubc_3 (by omega)) (by decide) | exact way_fin 99 99 16 (if_neg (by have := fnd_eq hC c_15; omega)) (if_neg c_31) (ubc_4 (by omega)) (by decide) | exact way_fin 99 99 99 (if_neg (by have := fnd_eq hC c_15; omega)) (if_neg c_31) (ubc_no c_51n) (by decide) | (exfalso; omega))
theorem shift_mid {b k p : Nat} {f g tl9 : Nat → Int32} (hk : k = 15) (hg : ∀ j, g j = if b + k < j ∧ j < b + 16 * p + 16 then f (j - 16) else f j) : ∀ j, g j = if b ≤ j ∧ j < b + 0 then tl9 (j - b) else if b + 16 ≤ j ∧ j < b + 16 * p + 16 then f (j - 16) else f j := by
  intro j
  rw [hg j, hk, if_neg (show ¬ (b ≤ j ∧ j < b + 0) by omega)]
  by_cases z : b + 16 ≤ j ∧ j < b + 16 * p + 16
  · rw [if_pos z, if_pos ⟨by omega, z.2⟩]
  · rw [if_neg z, if_neg (by omega)]
theorem shift_put {b i p : Nat} {f g tl9 : Nat → Int32} (hg : ∀ j, g j = if b ≤ j ∧ j < b + i then tl9 (j - b) else if b + 16 ≤ j ∧ j < b + 16 * p + 16 then f (j - 16) else f j) : ∀ j, upd g (b + i) (tl9 i) j = if b ≤ j ∧ j < b + (i + 1) then tl9 (j - b) else if b + 16 ≤ j ∧ j < b + 16 * p + 16 then f (j - 16) else f j := by
  intro j
  by_cases e : j = b + i
  · rw [e, pk_us, if_pos ⟨by omega, by omega⟩, Nat.add_sub_cancel_left]
  · rw [pk_un e, hg j]
    by_cases z : b ≤ j ∧ j < b + i
    · rw [if_pos z, if_pos ⟨z.1, by omega⟩]
    · rw [if_neg z, if_neg (show ¬ (b ≤ j ∧ j < b + (i + 1)) by omega)]
theorem shift_step {b k p : Nat} {f g : Nat → Int32} (hk : 16 ≤ k ∧ k ≤ 16 * p + 15) (hg : ∀ j, g j = if b + k < j ∧ j < b + 16 * p + 16 then f (j - 16) else f j) : ∀ j, upd g (b + k) (g (b + k - 16)) j = if b + (k - 1) < j ∧ j < b + 16 * p + 16 then f (j - 16) else f j := by
  intro j
  by_cases e : j = b + k
  · rw [e, pk_us, hg, if_neg (by omega), if_pos ⟨by omega, by omega⟩]
  · rw [pk_un e, hg j]
    by_cases z : b + k < j ∧ j < b + 16 * p + 16
    · rw [if_pos z, if_pos ⟨by omega, z.2⟩]
    · rw [if_neg z, if_neg (by omega)]
theorem iX4_shift_X4 : ∀ w ∈ wsX40, w ∈ wsX4_shift := by decide +kernel
set_option maxHeartbeats 4000000 in
set_option maxRecDepth 100000 in
theorem c_X4_shift (l : Launch) (D : va_G) (cy : Nat → ClassId) (sz : Nat) (q : Nat → Nat) (T U : Int32) (ra : Nat) (f tl9 : Nat → Int32) (b p : Nat) (hb9 : b ≤ 112) (hp9 : p ≤ 6) : Met l yX4_shift wsX4_shift ({ frames := 0, cells := 0, slots := 0, locals := 0 } : Room) (va_Pc [.ref (q 0), .ref ra, .int (nI b), .int (nI p)] (gI D (gT cy) [(q 0, eMod T q U), (ra, eI cy 224 f), (q 16, eI cy 16 tl9)] sz)) (va_Qv (fun u : (Nat → Int32) => (∀ j, u j = if b ≤ j ∧ j < b + 16 then tl9 (j - b) else if b + 16 ≤ j ∧ j < b + 16 * p + 16 then f (j - 16) else f j)) (gO D (fun u : (Nat → Int32) => [(q 0, eMod T q U), (ra, eI cy 224 u), (q 16, eI cy 16 tl9)]) (va_A [(q 0, eMod T q U), (ra, eI cy 224 f), (q 16, eI cy 16 tl9)] sz)) (va_A [(q 0, eMod T q U), (ra, eI cy 224 f), (q 16, eI cy 16 tl9)] sz)) 0 0 (va_A [(q 0, eMod T q U), (ra, eI cy 224 f), (q 16, eI cy 16 tl9)] sz) := by
  refine gW_v (cc := cX4_shift) (maxL := 5) (by decide) rfl (Nat.le_of_ble_eq_true rfl) ?_
  intro pp ee ss mm bw mt cd QQ AA ls hfx hP hG hD hA hret hl
  have hS : va_S AA ss.heap ss.heap [] := va_S.rf
  obtain ⟨H, eH⟩ : ∃ H, H = ss.heap := ⟨_, rfl⟩
  obtain ⟨locs, eL⟩ : ∃ L : List Loc, L = [] := ⟨_, rfl⟩
  have hP : va_P D vwCl [(q 0, eMod T q U), (ra, eI cy 224 f), (q 16, eI cy 16 tl9)] H := by rw [eH]; exact hP
  have hS : va_S AA ss.heap H locs := by rw [eH, eL]; exact hS
  have goal : ∀ X Y, X = H → Y = locs → W pp l ee ({ frames := 0, cells := 0, slots := 0, locals := 0 } : Room) ss mm ([.ref (q 0), .ref ra, .int (nI b), .int (nI p)] : List Value).toArray bw mt cd X Y 0 0 QQ (F0 mm 0 ls []) → W pp l ee ({ frames := 0, cells := 0, slots := 0, locals := 0 } : Room) ss mm ([.ref (q 0), .ref ra, .int (nI b), .int (nI p)] : List Value).toArray bw mt cd ss.heap [] 0 0 QQ (F0 mm 0 ls []) := fun X Y hX hY h => by rw [hX, hY, eH, eL] at h; exact h
  refine goal H locs rfl rfl ?_
  clear goal eH eL
  obtain ⟨hx, hb, hml, hown, hts, hlocks⟩ := hfx
  have hown : ss.vm.findClass RX4 = some mm.cls := hown
  have hl : lv_has ls 5 [(0, .ref (q 0)), (1, .ref ra), (2, .int (nI b)), (3, .int (nI p))] := hl
  refine lv_bipush (v := nI 16) hx hb dX4_shift_0 (by decide) ?_
  refine lv_iload_n hx hb dX4_shift_2 rfl (lv_at hl 3 rfl) ?_
  refine lv_imul hx hb dX4_shift_3 ?_
  refine g_ti (y := nI (16 * p)) (pk_mul _ _) ?_
  refine lv_bipush (v := nI 15) hx hb dX4_shift_4 (by decide) ?_
  refine lv_iadd hx hb dX4_shift_6 ?_
  refine g_ti (y := nI ((16 * p) + 15)) (nI_add _ _) ?_
  refine lv_istore (lv' := [(4, .int (nI ((16 * p) + 15))), (0, .ref (q 0)), (1, .ref ra), (2, .int (nI b)), (3, .int (nI p))]) hx hb dX4_shift_7 hl (by decide) rfl (fun ls hl => ?_)
  have loop_9 : ∀ (n9 : Nat) (k : Nat) (g : Nat → Int32), k < n9 → (15 ≤ k ∧ k ≤ 16 * p + 15) → (∀ j, g j = if b + k < j ∧ j < b + 16 * p + 16 then f (j - 16) else f j) → ∀ (H : Heap) (locs : List Loc) (ls : Array Slot), va_P D vwCl [(q 0, eMod T q U), (ra, eI cy 224 g), (q 16, eI cy 16 tl9)] H → va_D AA [(q 0, eMod T q U), (ra, eI cy 224 g), (q 16, eI cy 16 tl9)] → va_S AA ss.heap H locs → lv_has ls 5 [(0, .ref (q 0)), (1, .ref ra), (2, .int (nI b)), (3, .int (nI p)), (4, .int (nI k))] → W pp l ee ({ frames := 0, cells := 0, slots := 0, locals := 0 } : Room) ss mm ([.ref (q 0), .ref ra, .int (nI b), .int (nI p)] : List Value).toArray bw mt cd H locs 0 0 QQ (F0 mm 9 ls []) := by
    intro n9
    induction n9 with
    | zero => intro k g h9; exact absurd h9 (Nat.not_lt_zero _)
    | succ n9 ih_9 =>
      intro k g hm_9 hk hg H locs ls hP hD hS hl
      refine lv_iload hx hb dX4_shift_9 (lv_at hl 4 rfl) ?_
      refine lv_bipush (v := nI 16) hx hb dX4_shift_11 (by decide) ?_
      refine lv_icmp_lt (tgt := 37) hx hb dX4_shift_13 (by decide) (fun c_13 => ?_) (fun c_13 => ?_)
      · skip
        have c_13 : k < 16 := (nI_ltI (a := k) (b := 16) (by omega) (by omega)).mp c_13
        refine lv_iconst (v := nI 0) hx hb dX4_shift_37 (by decide) ?_
        refine lv_istore (lv' := [(4, .int (nI 0)), (0, .ref (q 0)), (1, .ref ra), (2, .int (nI b)), (3, .int (nI p))]) hx hb dX4_shift_38 hl (by decide) rfl (fun ls hl => ?_)
        have loop_40 : ∀ (n9 : Nat) (i : Nat) (g2 : Nat → Int32), 16 - i < n9 → (i ≤ 16) → (∀ j, g2 j = if b ≤ j ∧ j < b + i then tl9 (j - b) else if b + 16 ≤ j ∧ j < b + 16 * p + 16 then f (j - 16) else f j) → ∀ (H : Heap) (locs : List Loc) (ls : Array Slot), va_P D vwCl [(q 0, eMod T q U), (ra, eI cy 224 g2), (q 16, eI cy 16 tl9)] H → va_D AA [(q 0, eMod T q U), (ra, eI cy 224 g2), (q 16, eI cy 16 tl9)] → va_S AA ss.heap H locs → lv_has ls 5 [(0, .ref (q 0)), (1, .ref ra), (2, .int (nI b)), (3, .int (nI p)), (4, .int (nI i))] → W pp l ee ({ frames := 0, cells := 0, slots := 0, locals := 0 } : Room) ss mm ([.ref (q 0), .ref ra, .int (nI b), .int (nI p)] : List Value).toArray bw mt cd H locs 0 0 QQ (F0 mm 40 ls []) := by
          intro n9
          induction n9 with
          | zero => intro i g2 h9; exact absurd h9 (Nat.not_lt_zero _)
          | succ n9 ih_40 =>
            intro i g2 hm_40 hi hg2 H locs ls hP hD hS hl
            refine lv_iload hx hb dX4_shift_40 (lv_at hl 4 rfl) ?_
            refine lv_bipush (v := nI 16) hx hb dX4_shift_42 (by decide) ?_
            refine lv_icmp_ge (tgt := 66) hx hb dX4_shift_44 (by decide) (fun c_44 => ?_) (fun c_44 => ?_)
            · skip
              have c_44 : 16 ≤ i := (nI_leI (a := 16) (b := i) (by omega) (by omega)).mp c_44
              exact hret _ _ _ _ g2 dX4_shift_66 (fun j => by have e9 : i = 16 := (by omega); rw [hg2 j, e9]) (hP.sub [0, 1, 2] rfl) (hD.sub [0, 1, 2] (by decide) rfl) hS
            · skip
              have c_44 : ¬ 16 ≤ i := fun z => c_44 ((nI_leI (a := 16) (b := i) (by omega) (by omega)).mpr z)
              refine lv_aload_n hx hb dX4_shift_47 rfl (lv_at hl 1 rfl) ?_
              refine lv_iload_n hx hb dX4_shift_48 rfl (lv_at hl 2 rfl) ?_
              refine lv_iload hx hb dX4_shift_49 (lv_at hl 4 rfl) ?_
              refine lv_iadd hx hb dX4_shift_51 ?_
              refine g_ti (y := nI (b + i)) (nI_add _ _) ?_
              refine lv_aload_n hx hb dX4_shift_52 rfl (lv_at hl 0 rfl) ?_
              refine va_get (D := D) (ci := 4) (v := .ref (q 16)) (C := RX4) (T := TX4) (N := 17) hx hb hts iX4_shift_X4 hown hG.1 hP 0 rfl rfl 16 (by decide) (hts (.fieldLink RX4 53 "DirtyTilesModel" "tile" "[I") (by decide +kernel)) (fun _ h9 => h9) rfl dX4_shift_53 ?_
              refine lv_iload hx hb dX4_shift_56 (lv_at hl 4 rfl) ?_
              refine g_iald hx hb hG hP 2 0 rfl rfl (k := i) (by omega) (by decide) dX4_shift_58 ?_
              refine g_iast hx hb hG hP hD hS 1 0 rfl rfl (k := b + i) (by omega) (by decide) dX4_shift_59 (fun H locs hP hD hS => ?_)
              have hP : va_P D vwCl [(q 0, eMod T q U), (ra, eI cy 224 (upd g2 (b + i) (tl9 i))), (q 16, eI cy 16 tl9)] H := hP
              have hD : va_D AA [(q 0, eMod T q U), (ra, eI cy 224 (upd g2 (b + i) (tl9 i))), (q 16, eI cy 16 tl9)] := hD
              refine lv_iinc (v := nI (i + 1)) (lv' := [(4, .int (nI (i + 1))), (0, .ref (q 0)), (1, .ref ra), (2, .int (nI b)), (3, .int (nI p))]) hx hb dX4_shift_60 hl (k := 4) rfl (nI_1 _) (by decide) rfl (fun ls hl => ?_)
              refine lv_goto (tgt := 40) hx hb dX4_shift_63 (by decide) ?_
              exact ih_40 (i + 1) (upd g2 (b + i) (tl9 i)) (by omega) (by omega) (shift_put hg2) _ _ _ (hP.sub [0, 1, 2] rfl) (hD.sub [0, 1, 2] (by decide) rfl) hS (lv_sub hl [1, 2, 3, 4, 0] rfl)
        exact loop_40 ((16 - 0) + 1) 0 g (Nat.lt_succ_self _) (by omega) (shift_mid (by omega) hg) _ _ _ (hP.sub [0, 1, 2] rfl) (hD.sub [0, 1, 2] (by decide) rfl) hS (lv_sub hl [1, 2, 3, 4, 0] rfl)
      · skip
        have c_13 : ¬ k < 16 := fun z => c_13 ((nI_ltI (a := k) (b := 16) (by omega) (by omega)).mpr z)
        refine lv_aload_n hx hb dX4_shift_16 rfl (lv_at hl 1 rfl) ?_
        refine lv_iload_n hx hb dX4_shift_17 rfl (lv_at hl 2 rfl) ?_
        refine lv_iload hx hb dX4_shift_18 (lv_at hl 4 rfl) ?_
        refine lv_iadd hx hb dX4_shift_20 ?_
        refine g_ti (y := nI (b + k)) (nI_add _ _) ?_
        refine lv_aload_n hx hb dX4_shift_21 rfl (lv_at hl 1 rfl) ?_
        refine lv_iload_n hx hb dX4_shift_22 rfl (lv_at hl 2 rfl) ?_
        refine lv_iload hx hb dX4_shift_23 (lv_at hl 4 rfl) ?_
        refine lv_iadd hx hb dX4_shift_25 ?_
        refine g_ti (y := nI (b + k)) (nI_add _ _) ?_
        refine lv_bipush (v := nI 16) hx hb dX4_shift_26 (by decide) ?_
        refine lv_isub hx hb dX4_shift_28 ?_
        refine g_ti (y := nI ((b + k) - 16)) (pk_sub (by omega)) ?_
        refine g_iald hx hb hG hP 1 0 rfl rfl (k := (b + k) - 16) (by omega) (by decide) dX4_shift_29 ?_
        refine g_iast hx hb hG hP hD hS 1 0 rfl rfl (k := b + k) (by omega) (by decide) dX4_shift_30 (fun H locs hP hD hS => ?_)
        have hP : va_P D vwCl [(q 0, eMod T q U), (ra, eI cy 224 (upd g (b + k) (g ((b + k) - 16)))), (q 16, eI cy 16 tl9)] H := hP
        have hD : va_D AA [(q 0, eMod T q U), (ra, eI cy 224 (upd g (b + k) (g ((b + k) - 16)))), (q 16, eI cy 16 tl9)] := hD
        refine lv_iinc (v := nI (k - 1)) (lv' := [(4, .int (nI (k - 1))), (0, .ref (q 0)), (1, .ref ra), (2, .int (nI b)), (3, .int (nI p))]) hx hb dX4_shift_31 hl (k := 4) rfl (g_dec (by omega)) (by decide) rfl (fun ls hl => ?_)
        refine lv_goto (tgt := 9) hx hb dX4_shift_34 (by decide) ?_
        exact ih_9 (k - 1) (upd g (b + k) (g ((b + k) - 16))) (by omega) (by omega) (shift_step (by omega) hg) _ _ _ (hP.sub [0, 1, 2] rfl) (hD.sub [0, 1, 2] (by decide) rfl) hS (lv_sub hl [1, 2, 3, 4, 0] rfl)
  exact loop_9 ((((16 * p) + 15)) + 1) ((16 * p) + 15) f (Nat.lt_succ_self _) (by omega) (fun j => (if_neg (by omega)).symm) _ _ _ (hP.sub [0, 1, 2] rfl) (hD.sub [0, 1, 2] (by decide) rfl) hS (lv_sub hl [1, 2, 3, 4, 0] rfl)
theorem iX4_cache_X4 : ∀ w ∈ wsX40, w ∈ wsX4_cache := by decide +kernel
set_option maxHeartbeats 4000000 in
set_option maxRecDepth 100000 in
theorem c_X4_cache (l : Launch) (D : va_G) (cy : Nat → ClassId) (sz : Nat) (q : Nat → Nat) (T U : Int32) (ca zs tl9 : Nat → Int32) (C : List Int64) (x : Int64) (c : Nat) (hc : c < 2) (hca : hCo C ca c) (hsz : zs c = nI C.length) (hC : C.length ≤ 6) (hx9 : hT x tl9) : Met l yX4_cache wsX4_cache ({ frames := 1, cells := 0, slots := 0, locals := 24 } : Room) (va_Pc [.ref (q 0), .int (nI c)] (gI D (gT cy) [(q 0, eMod T q U), (q 5, eI cy 224 ca), (q 6, eI cy 2 zs), (q 16, eI cy 16 tl9)] sz)) (va_Qv (fun u : (Nat → Int32) × (Nat → Int32) => (hCo (brg C x) u.1 c ∧ u.2 c = nI (brg C x).length ∧ kO 112 c ca u.1 ∧ kO 1 c zs u.2)) (gO D (fun u : (Nat → Int32) × (Nat → Int32) => [(q 0, eMod T q U), (q 5, eI cy 224 u.1), (q 6, eI cy 2 u.2), (q 16, eI cy 16 tl9)]) (va_A [(q 0, eMod T q U), (q 5, eI cy 224 ca), (q 6, eI cy 2 zs), (q 16, eI cy 16 tl9)] sz)) (va_A [(q 0, eMod T q U), (q 5, eI cy 224 ca), (q 6, eI cy 2 zs), (q 16, eI cy 16 tl9)] sz)) 0 0 (va_A [(q 0, eMod T q U), (q 5, eI cy 224 ca), (q 6, eI cy 2 zs), (q 16, eI cy 16 tl9)] sz) := by
  refine gW_v (cc := cX4_cache) (maxL := 3) (by decide) rfl (Nat.le_of_ble_eq_true rfl) ?_
  intro pp ee ss mm bw mt cd QQ AA ls hfx hP hG hD hA hret hl
  have hS : va_S AA ss.heap ss.heap [] := va_S.rf
  obtain ⟨H, eH⟩ : ∃ H, H = ss.heap := ⟨_, rfl⟩
  obtain ⟨locs, eL⟩ : ∃ L : List Loc, L = [] := ⟨_, rfl⟩
  have hP : va_P D vwCl [(q 0, eMod T q U), (q 5, eI cy 224 ca), (q 6, eI cy 2 zs), (q 16, eI cy 16 tl9)] H := by rw [eH]; exact hP
  have hS : va_S AA ss.heap H locs := by rw [eH, eL]; exact hS
  have goal : ∀ X Y, X = H → Y = locs → W pp l ee ({ frames := 1, cells := 0, slots := 0, locals := 24 } : Room) ss mm ([.ref (q 0), .int (nI c)] : List Value).toArray bw mt cd X Y 0 0 QQ (F0 mm 0 ls []) → W pp l ee ({ frames := 1, cells := 0, slots := 0, locals := 24 } : Room) ss mm ([.ref (q 0), .int (nI c)] : List Value).toArray bw mt cd ss.heap [] 0 0 QQ (F0 mm 0 ls []) := fun X Y hX hY h => by rw [hX, hY, eH, eL] at h; exact h
  refine goal H locs rfl rfl ?_
  clear goal eH eL
  obtain ⟨hx, hb, hml, hown, hts, hlocks⟩ := hfx
  have hown : ss.vm.findClass RX4 = some mm.cls := hown
  have hl : lv_has ls 3 [(0, .ref (q 0)), (1, .int (nI c))] := hl
  have z1 := ixF_le C x
  have z2 := brg_len (L := C) (x := x) hC
  refine lv_aload_n hx hb dX4_cache_0 rfl (lv_at hl 0 rfl) ?_
  refine lv_iload_n hx hb dX4_cache_1 rfl (lv_at hl 1 rfl) ?_
  refine gc_Si (va_runV (As := [.int (nI c)]) (rest := []) ⟨hx, hb, hml, hown, hts⟩ (c_X4_find l D cy q T U ca zs tl9 C x c hc hca hsz hC hx9) (cwV 1 hts gX4_cache_X4_find rfl rfl rfl (by decide +kernel) ⟨Nat.le_of_ble_eq_true rfl, Nat.le_of_ble_eq_true rfl⟩) (gpVR (ci := 4) (q0 := 0) hG (hP.sub [0, 1, 2, 3] rfl) rfl rfl) rfl rfl hl.1 rfl (lv_room (Nat.le_of_ble_eq_true rfl)) dX4_cache_2 ⟨Nat.zero_le _, Nat.zero_le _⟩) ?_
  refine lv_istore_n (lv' := [(2, .int (fnd C x)), (0, .ref (q 0)), (1, .int (nI c))]) hx hb dX4_cache_5 rfl hl (by decide) rfl (fun ls hl => ?_)
  refine lv_aload_n hx hb dX4_cache_6 rfl (lv_at hl 1 rfl) ?_
  refine lv_aload_n hx hb dX4_cache_7 rfl (lv_at hl 1 rfl) ?_
  refine va_get (D := D) (ci := 4) (v := .ref (q 5)) (C := RX4) (T := TX4) (N := 17) hx hb hts iX4_cache_X4 hown hG.1 hP 0 rfl rfl 5 (by decide) (hts (.fieldLink RX4 23 "DirtyTilesModel" "caches" "[I") (by decide +kernel)) (fun _ h9 => h9) rfl dX4_cache_8 ?_
  refine lv_bipush (v := nI 112) hx hb dX4_cache_11 (by decide) ?_
  refine lv_iload_n hx hb dX4_cache_13 rfl (lv_at hl 2 rfl) ?_
  refine lv_imul hx hb dX4_cache_14 ?_
  refine g_ti (y := nI (112 * c)) (pk_mul _ _) ?_
  refine lv_iload_n hx hb dX4_cache_15 rfl (lv_at hl 0 rfl) ?_
  refine lv_iconst (v := (-1)) hx hb dX4_cache_16 (by decide) ?_
  refine lv_icmp_ne (tgt := 29) hx hb dX4_cache_17 (by decide) (fun c_17 => ?_) (fun c_17 => ?_)
  · skip
    refine lv_iload_n hx hb dX4_cache_29 rfl (lv_at hl 0 rfl) ?_
    refine g_ti (y := nI (ixF C x)) ((fnd_ne c_17).2) ?_
    refine gc_Wv (wn := fun u => [(q 0, eMod T q U), (q 5, eI cy 224 u), (q 6, eI cy 2 zs), (q 16, eI cy 16 tl9)]) (wr := [(q 6, eI cy 2 zs)]) (va_runV (As := [.ref (q 5), .int (nI (112 * c)), .int (nI (ixF C x))]) (rest := []) ⟨hx, hb, hml, hown, hts⟩ (c_X4_shift l D cy H.size q T U (q 5) ca tl9 (112 * c) (ixF C x) (by omega) (by omega)) (cwV 3 hts gX4_cache_X4_shift rfl rfl rfl (by decide +kernel) ⟨Nat.le_of_ble_eq_true rfl, Nat.le_of_ble_eq_true rfl⟩) (gpVI (ci := 4) (q0 := 0) hG (hP.sub [0, 1, 3] rfl) (hD.sub [0, 1, 3] (by decide) rfl) rfl rfl) rfl rfl hl.1 rfl (lv_room (Nat.le_of_ble_eq_true rfl)) dX4_cache_30 ⟨Nat.zero_le _, Nat.zero_le _⟩) hP hD hS hA [0, 1, 3] [2] [1, 2, 0, 3] rfl rfl (by decide) (by decide) (fun _ => rfl) (by decide) (fun ca1 H locs hw_30 hP hD hS => ?_)
    have hP : va_P D vwCl [(q 0, eMod T q U), (q 5, eI cy 224 ca1), (q 6, eI cy 2 zs), (q 16, eI cy 16 tl9)] H := hP
    have hD : va_D AA [(q 0, eMod T q U), (q 5, eI cy 224 ca1), (q 6, eI cy 2 zs), (q 16, eI cy 16 tl9)] := hD
    have hw_30 : ∀ j, ca1 j = if (112 * c) ≤ j ∧ j < (112 * c) + 16 then tl9 (j - (112 * c)) else if (112 * c) + 16 ≤ j ∧ j < (112 * c) + 16 * (ixF C x) + 16 then ca (j - 16) else ca j := hw_30
    refine lv_aload_n hx hb dX4_cache_33 rfl (lv_at hl 1 rfl) ?_
    refine va_get (D := D) (ci := 4) (v := .ref (q 6)) (C := RX4) (T := TX4) (N := 17) hx hb hts iX4_cache_X4 hown hG.1 hP 0 rfl rfl 6 (by decide) (hts (.fieldLink RX4 26 "DirtyTilesModel" "sizes" "[I") (by decide +kernel)) (fun _ h9 => h9) rfl dX4_cache_34 ?_
    refine lv_iload_n hx hb dX4_cache_37 rfl (lv_at hl 2 rfl) ?_
    refine lv_dup2_11 hx hb dX4_cache_38 rfl rfl ?_
    refine g_iald hx hb hG hP 2 0 rfl rfl (k := c) (by omega) (by decide) dX4_cache_39 ?_
    refine g_ti (y := nI C.length) (hsz) ?_
    refine lv_iload_n hx hb dX4_cache_40 rfl (lv_at hl 0 rfl) ?_
    refine lv_iconst (v := (-1)) hx hb dX4_cache_41 (by decide) ?_
    refine lv_icmp_ne (tgt := 60) hx hb dX4_cache_42 (by decide) (fun c_42 => ?_) (fun c_42 => ?_)
    · skip
      refine lv_iconst (v := nI 0) hx hb dX4_cache_60 (by decide) ?_
      refine lv_iadd hx hb dX4_cache_61 ?_
      refine g_ti (y := nI (C.length + 0)) (nI_add _ _) ?_
      refine g_iast hx hb hG hP hD hS 2 0 rfl rfl (k := c) (by omega) (by decide) dX4_cache_62 (fun H locs hP hD hS => ?_)
      have hP : va_P D vwCl [(q 0, eMod T q U), (q 5, eI cy 224 ca1), (q 6, eI cy 2 (upd zs c (nI (C.length + 0)))), (q 16, eI cy 16 tl9)] H := hP
      have hD : va_D AA [(q 0, eMod T q U), (q 5, eI cy 224 ca1), (q 6, eI cy 2 (upd zs c (nI (C.length + 0)))), (q 16, eI cy 16 tl9)] := hD
      exact hret _ _ _ _ ⟨ca1, upd zs c (nI (C.length + 0))⟩ dX4_cache_63 (by have hb9 := brg_cells hc hca hC hx9 hw_30; refine ⟨hb9.1, ?_, hb9.2, kO_up (kO_rf _ _ _) ⟨by omega, by omega⟩⟩; show upd _ _ _ _ = _; rw [pk_us, z2]; first | exact absurd c_17 c_42 | exact absurd c_42 c_17 | (have q1 := fnd_eq hC c_17; first | (rw [if_pos ⟨q1, by omega⟩]; done) | (rw [if_neg (by omega)]; rfl)) | (have q1 := (fnd_ne c_17).1; rw [if_neg (by omega)]; rfl)) (hP.sub [0, 1, 2, 3] rfl) (hD.sub [0, 1, 2, 3] (by decide) rfl) hS
    · skip
      refine lv_aload_n hx hb dX4_cache_45 rfl (lv_at hl 1 rfl) ?_
      refine va_get (D := D) (ci := 4) (v := .ref (q 6)) (C := RX4) (T := TX4) (N := 17) hx hb hts iX4_cache_X4 hown hG.1 hP 0 rfl rfl 6 (by decide) (hts (.fieldLink RX4 26 "DirtyTilesModel" "sizes" "[I") (by decide +kernel)) (fun _ h9 => h9) rfl dX4_cache_46 ?_
      refine lv_iload_n hx hb dX4_cache_49 rfl (lv_at hl 2 rfl) ?_
      refine g_iald hx hb hG hP 2 0 rfl rfl (k := c) (by omega) (by decide) dX4_cache_50 ?_
      refine g_ti (y := nI C.length) (hsz) ?_
      refine lv_bipush (v := nI 6) hx hb dX4_cache_51 (by decide) ?_
      refine lv_icmp_ge (tgt := 60) hx hb dX4_cache_53 (by decide) (fun c_53 => ?_) (fun c_53 => ?_)
      · skip
        have c_53 : 6 ≤ C.length := (nI_leI (a := 6) (b := C.length) (by omega) (by omega)).mp c_53
        refine lv_iconst (v := nI 0) hx hb dX4_cache_60 (by decide) ?_
        refine lv_iadd hx hb dX4_cache_61 ?_
        refine g_ti (y := nI (C.length + 0)) (nI_add _ _) ?_
        refine g_iast hx hb hG hP hD hS 2 0 rfl rfl (k := c) (by omega) (by decide) dX4_cache_62 (fun H locs hP hD hS => ?_)
        have hP : va_P D vwCl [(q 0, eMod T q U), (q 5, eI cy 224 ca1), (q 6, eI cy 2 (upd zs c (nI (C.length + 0)))), (q 16, eI cy 16 tl9)] H := hP
        have hD : va_D AA [(q 0, eMod T q U), (q 5, eI cy 224 ca1), (q 6, eI cy 2 (upd zs c (nI (C.length + 0)))), (q 16, eI cy 16 tl9)] := hD
        exact hret _ _ _ _ ⟨ca1, upd zs c (nI (C.length + 0))⟩ dX4_cache_63 (by have hb9 := brg_cells hc hca hC hx9 hw_30; refine ⟨hb9.1, ?_, hb9.2, kO_up (kO_rf _ _ _) ⟨by omega, by omega⟩⟩; show upd _ _ _ _ = _; rw [pk_us, z2]; first | exact absurd c_17 c_42 | exact absurd c_42 c_17 | (have q1 := fnd_eq hC c_17; first | (rw [if_pos ⟨q1, by omega⟩]; done) | (rw [if_neg (by omega)]; rfl)) | (have q1 := (fnd_ne c_17).1; rw [if_neg (by omega)]; rfl)) (hP.sub [0, 1, 2, 3] rfl) (hD.sub [0, 1, 2, 3] (by decide) rfl) hS
      · skip
        have c_53 : ¬ 6 ≤ C.length := fun z => c_53 ((nI_leI (a := 6) (b := C.length) (by omega) (by omega)).mpr z)
        refine lv_iconst (v := nI 1) hx hb dX4_cache_56 (by decide) ?_
        refine lv_goto (tgt := 61) hx hb dX4_cache_57 (by decide) ?_
        refine lv_iadd hx hb dX4_cache_61 ?_
        refine g_ti (y := nI (C.length + 1)) (nI_add _ _) ?_
        refine g_iast hx hb hG hP hD hS 2 0 rfl rfl (k := c) (by omega) (by decide) dX4_cache_62 (fun H locs hP hD hS => ?_)
        have hP : va_P D vwCl [(q 0, eMod T q U), (q 5, eI cy 224 ca1), (q 6, eI cy 2 (upd zs c (nI (C.length + 1)))), (q 16, eI cy 16 tl9)] H := hP
        have hD : va_D AA [(q 0, eMod T q U), (q 5, eI cy 224 ca1), (q 6, eI cy 2 (upd zs c (nI (C.length + 1)))), (q 16, eI cy 16 tl9)] := hD
        exact hret _ _ _ _ ⟨ca1, upd zs c (nI (C.length + 1))⟩ dX4_cache_63 (by have hb9 := brg_cells hc hca hC hx9 hw_30; refine ⟨hb9.1, ?_, hb9.2, kO_up (kO_rf _ _ _) ⟨by omega, by omega⟩⟩; show upd _ _ _ _ = _; rw [pk_us, z2]; first | exact absurd c_17 c_42 | exact absurd c_42 c_17 | (have q1 := fnd_eq hC c_17; first | (rw [if_pos ⟨q1, by omega⟩]; done) | (rw [if_neg (by omega)]; rfl)) | (have q1 := (fnd_ne c_17).1; rw [if_neg (by omega)]; rfl)) (hP.sub [0, 1, 2, 3] rfl) (hD.sub [0, 1, 2, 3] (by decide) rfl) hS
  · skip
    refine lv_aload_n hx hb dX4_cache_20 rfl (lv_at hl 1 rfl) ?_
    refine va_get (D := D) (ci := 4) (v := .ref (q 6)) (C := RX4) (T := TX4) (N := 17) hx hb hts iX4_cache_X4 hown hG.1 hP 0 rfl rfl 6 (by decide) (hts (.fieldLink RX4 26 "DirtyTilesModel" "sizes" "[I") (by decide +kernel)) (fun _ h9 => h9) rfl dX4_cache_21 ?_
    refine lv_iload_n hx hb dX4_cache_24 rfl (lv_at hl 2 rfl) ?_
    refine g_iald hx hb hG hP 2 0 rfl rfl (k := c) (by omega) (by decide) dX4_cache_25 ?_
    refine g_ti (y := nI (ixF C x)) (by rw [hsz, fnd_eq hC c_17]) ?_
    refine lv_goto (tgt := 30) hx hb dX4_cache_26 (by decide) ?_
    refine gc_Wv (wn := fun u => [(q 0, eMod T q U), (q 5, eI cy 224 u), (q 6, eI cy 2 zs), (q 16, eI cy 16 tl9)]) (wr := [(q 6, eI cy 2 zs)]) (va_runV (As := [.ref (q 5), .int (nI (112 * c)), .int (nI (ixF C x))]) (rest := []) ⟨hx, hb, hml, hown, hts⟩ (c_X4_shift l D cy H.size q T U (q 5) ca tl9 (112 * c) (ixF C x) (by omega) (by omega)) (cwV 3 hts gX4_cache_X4_shift rfl rfl rfl (by decide +kernel) ⟨Nat.le_of_ble_eq_true rfl, Nat.le_of_ble_eq_true rfl⟩) (gpVI (ci := 4) (q0 := 0) hG (hP.sub [0, 1, 3] rfl) (hD.sub [0, 1, 3] (by decide) rfl) rfl rfl) rfl rfl hl.1 rfl (lv_room (Nat.le_of_ble_eq_true rfl)) dX4_cache_30 ⟨Nat.zero_le _, Nat.zero_le _⟩) hP hD hS hA [0, 1, 3] [2] [1, 2, 0, 3] rfl rfl (by decide) (by decide) (fun _ => rfl) (by decide) (fun ca1_2 H locs hw_30 hP hD hS => ?_)
    have hP : va_P D vwCl [(q 0, eMod T q U), (q 5, eI cy 224 ca1_2), (q 6, eI cy 2 zs), (q 16, eI cy 16 tl9)] H := hP
    have hD : va_D AA [(q 0, eMod T q U), (q 5, eI cy 224 ca1_2), (q 6, eI cy 2 zs), (q 16, eI cy 16 tl9)] := hD
    have hw_30 : ∀ j, ca1_2 j = if (112 * c) ≤ j ∧ j < (112 * c) + 16 then tl9 (j - (112 * c)) else if (112 * c) + 16 ≤ j ∧ j < (112 * c) + 16 * (ixF C x) + 16 then ca (j - 16) else ca j := hw_30
    refine lv_aload_n hx hb dX4_cache_33 rfl (lv_at hl 1 rfl) ?_
    refine va_get (D := D) (ci := 4) (v := .ref (q 6)) (C := RX4) (T := TX4) (N := 17) hx hb hts iX4_cache_X4 hown hG.1 hP 0 rfl rfl 6 (by decide) (hts (.fieldLink RX4 26 "DirtyTilesModel" "sizes" "[I") (by decide +kernel)) (fun _ h9 => h9) rfl dX4_cache_34 ?_
    refine lv_iload_n hx hb dX4_cache_37 rfl (lv_at hl 2 rfl) ?_
    refine lv_dup2_11 hx hb dX4_cache_38 rfl rfl ?_
    refine g_iald hx hb hG hP 2 0 rfl rfl (k := c) (by omega) (by decide) dX4_cache_39 ?_
    refine g_ti (y := nI C.length) (hsz) ?_
    refine lv_iload_n hx hb dX4_cache_40 rfl (lv_at hl 0 rfl) ?_
    refine lv_iconst (v := (-1)) hx hb dX4_cache_41 (by decide) ?_
    refine lv_icmp_ne (tgt := 60) hx hb dX4_cache_42 (by decide) (fun c_42 => ?_) (fun c_42 => ?_)
    · skip
      refine lv_iconst (v := nI 0) hx hb dX4_cache_60 (by decide) ?_
      refine lv_iadd hx hb dX4_cache_61 ?_
      refine g_ti (y := nI (C.length + 0)) (nI_add _ _) ?_
      refine g_iast hx hb hG hP hD hS 2 0 rfl rfl (k := c) (by omega) (by decide) dX4_cache_62 (fun H locs hP hD hS => ?_)
      have hP : va_P D vwCl [(q 0, eMod T q U), (q 5, eI cy 224 ca1_2), (q 6, eI cy 2 (upd zs c (nI (C.length + 0)))), (q 16, eI cy 16 tl9)] H := hP
      have hD : va_D AA [(q 0, eMod T q U), (q 5, eI cy 224 ca1_2), (q 6, eI cy 2 (upd zs c (nI (C.length + 0)))), (q 16, eI cy 16 tl9)] := hD
      exact hret _ _ _ _ ⟨ca1_2, upd zs c (nI (C.length + 0))⟩ dX4_cache_63 (by have hb9 := brg_cells hc hca hC hx9 hw_30; refine ⟨hb9.1, ?_, hb9.2, kO_up (kO_rf _ _ _) ⟨by omega, by omega⟩⟩; show upd _ _ _ _ = _; rw [pk_us, z2]; first | exact absurd c_17 c_42 | exact absurd c_42 c_17 | (have q1 := fnd_eq hC c_17; first | (rw [if_pos ⟨q1, by omega⟩]; done) | (rw [if_neg (by omega)]; rfl)) | (have q1 := (fnd_ne c_17).1; rw [if_neg (by omega)]; rfl)) (hP.sub [0, 1, 2, 3] rfl) (hD.sub [0, 1, 2, 3] (by decide) rfl) hS
    · skip
      refine lv_aload_n hx hb dX4_cache_45 rfl (lv_at hl 1 rfl) ?_
      refine va_get (D := D) (ci := 4) (v := .ref (q 6)) (C := RX4) (T := TX4) (N := 17) hx hb hts iX4_cache_X4 hown hG.1 hP 0 rfl rfl 6 (by decide) (hts (.fieldLink RX4 26 "DirtyTilesModel" "sizes" "[I") (by decide +kernel)) (fun _ h9 => h9) rfl dX4_cache_46 ?_
      refine lv_iload_n hx hb dX4_cache_49 rfl (lv_at hl 2 rfl) ?_
      refine g_iald hx hb hG hP 2 0 rfl rfl (k := c) (by omega) (by decide) dX4_cache_50 ?_
      refine g_ti (y := nI C.length) (hsz) ?_
      refine lv_bipush (v := nI 6) hx hb dX4_cache_51 (by decide) ?_
      refine lv_icmp_ge (tgt := 60) hx hb dX4_cache_53 (by decide) (fun c_53 => ?_) (fun c_53 => ?_)
      · skip
        have c_53 : 6 ≤ C.length := (nI_leI (a := 6) (b := C.length) (by omega) (by omega)).mp c_53
        refine lv_iconst (v := nI 0) hx hb dX4_cache_60 (by decide) ?_
        refine lv_iadd hx hb dX4_cache_61 ?_
        refine g_ti (y := nI (C.length + 0)) (nI_add _ _) ?_
        refine g_iast hx hb hG hP hD hS 2 0 rfl rfl (k := c) (by omega) (by decide) dX4_cache_62 (fun H locs hP hD hS => ?_)
        have hP : va_P D vwCl [(q 0, eMod T q U), (q 5, eI cy 224 ca1_2), (q 6, eI cy 2 (upd zs c (nI (C.length + 0)))), (q 16, eI cy 16 tl9)] H := hP
        have hD : va_D AA [(q 0, eMod T q U), (q 5, eI cy 224 ca1_2), (q 6, eI cy 2 (upd zs c (nI (C.length + 0)))), (q 16, eI cy 16 tl9)] := hD
        exact hret _ _ _ _ ⟨ca1_2, upd zs c (nI (C.length + 0))⟩ dX4_cache_63 (by have hb9 := brg_cells hc hca hC hx9 hw_30; refine ⟨hb9.1, ?_, hb9.2, kO_up (kO_rf _ _ _) ⟨by omega, by omega⟩⟩; show upd _ _ _ _ = _; rw [pk_us, z2]; first | exact absurd c_17 c_42 | exact absurd c_42 c_17 | (have q1 := fnd_eq hC c_17; first | (rw [if_pos ⟨q1, by omega⟩]; done) | (rw [if_neg (by omega)]; rfl)) | (have q1 := (fnd_ne c_17).1; rw [if_neg (by omega)]; rfl)) (hP.sub [0, 1, 2, 3] rfl) (hD.sub [0, 1, 2, 3] (by decide) rfl) hS
      · skip
        have c_53 : ¬ 6 ≤ C.length := fun z => c_53 ((nI_leI (a := 6) (b := C.length) (by omega) (by omega)).mpr z)
        refine lv_iconst (v := nI 1) hx hb dX4_cache_56 (by decide) ?_
        refine lv_goto (tgt := 61) hx hb dX4_cache_57 (by decide) ?_
        refine lv_iadd hx hb dX4_cache_61 ?_
        refine g_ti (y := nI (C.length + 1)) (nI_add _ _) ?_
        refine g_iast hx hb hG hP hD hS 2 0 rfl rfl (k := c) (by omega) (by decide) dX4_cache_62 (fun H locs hP hD hS => ?_)
        have hP : va_P D vwCl [(q 0, eMod T q U), (q 5, eI cy 224 ca1_2), (q 6, eI cy 2 (upd zs c (nI (C.length + 1)))), (q 16, eI cy 16 tl9)] H := hP
        have hD : va_D AA [(q 0, eMod T q U), (q 5, eI cy 224 ca1_2), (q 6, eI cy 2 (upd zs c (nI (C.length + 1)))), (q 16, eI cy 16 tl9)] := hD
        exact hret _ _ _ _ ⟨ca1_2, upd zs c (nI (C.length + 1))⟩ dX4_cache_63 (by have hb9 := brg_cells hc hca hC hx9 hw_30; refine ⟨hb9.1, ?_, hb9.2, kO_up (kO_rf _ _ _) ⟨by omega, by omega⟩⟩; show upd _ _ _ _ = _; rw [pk_us, z2]; first | exact absurd c_17 c_42 | exact absurd c_42 c_17 | (have q1 := fnd_eq hC c_17; first | (rw [if_pos ⟨q1, by omega⟩]; done) | (rw [if_neg (by omega)]; rfl)) | (have q1 := (fnd_ne c_17).1; rw [if_neg (by omega)]; rfl)) (hP.sub [0, 1, 2, 3] rfl) (hD.sub [0, 1, 2, 3] (by decide) rfl) hS
theorem iX4_cacheOwn_X4 : ∀ w ∈ wsX40, w ∈ wsX4_cacheOwn := by decide +kernel
set_option maxHeartbeats 4000000 in
set_option maxRecDepth 100000 in
theorem c_X4_cacheOwn (l : Launch) (D : va_G) (cy : Nat → ClassId) (sz : Nat) (q : Nat → Nat) (T U : Int32) (ca zs tl9 : Nat → Int32) (C : List Int64) (x : Int64) (c : Nat) (hc : c < 2) (hca : hCo C ca c) (hsz : zs c = nI C.length) (hC : C.length ≤ 6) (hx9 : hT x tl9) : Met l yX4_cacheOwn wsX4_cacheOwn ({ frames := 1, cells := 0, slots := 0, locals := 24 } : Room) (va_Pc [.ref (q 0), .int (nI c)] (gI D (gT cy) [(q 0, eMod T q U), (q 7, eI cy 224 ca), (q 8, eI cy 2 zs), (q 16, eI cy 16 tl9)] sz)) (va_Qv (fun u : (Nat → Int32) × (Nat → Int32) => (hCo (brg C x) u.1 c ∧ u.2 c = nI (brg C x).length ∧ kO 112 c ca u.1 ∧ kO 1 c zs u.2)) (gO D (fun u : (Nat → Int32) × (Nat → Int32) => [(q 0, eMod T q U), (q 7, eI cy 224 u.1), (q 8, eI cy 2 u.2), (q 16, eI cy 16 tl9)]) (va_A [(q 0, eMod T q U), (q 7, eI cy 224 ca), (q 8, eI cy 2 zs), (q 16, eI cy 16 tl9)] sz)) (va_A [(q 0, eMod T q U), (q 7, eI cy 224 ca), (q 8, eI cy 2 zs), (q 16, eI cy 16 tl9)] sz)) 0 0 (va_A [(q 0, eMod T q U), (q 7, eI cy 224 ca), (q 8, eI cy 2 zs), (q 16, eI cy 16 tl9)] sz) := by
  refine gW_v (cc := cX4_cacheOwn) (maxL := 3) (by decide) rfl (Nat.le_of_ble_eq_true rfl) ?_
  intro pp ee ss mm bw mt cd QQ AA ls hfx hP hG hD hA hret hl
  have hS : va_S AA ss.heap ss.heap [] := va_S.rf
  obtain ⟨H, eH⟩ : ∃ H, H = ss.heap := ⟨_, rfl⟩
  obtain ⟨locs, eL⟩ : ∃ L : List Loc, L = [] := ⟨_, rfl⟩
  have hP : va_P D vwCl [(q 0, eMod T q U), (q 7, eI cy 224 ca), (q 8, eI cy 2 zs), (q 16, eI cy 16 tl9)] H := by rw [eH]; exact hP
  have hS : va_S AA ss.heap H locs := by rw [eH, eL]; exact hS
  have goal : ∀ X Y, X = H → Y = locs → W pp l ee ({ frames := 1, cells := 0, slots := 0, locals := 24 } : Room) ss mm ([.ref (q 0), .int (nI c)] : List Value).toArray bw mt cd X Y 0 0 QQ (F0 mm 0 ls []) → W pp l ee ({ frames := 1, cells := 0, slots := 0, locals := 24 } : Room) ss mm ([.ref (q 0), .int (nI c)] : List Value).toArray bw mt cd ss.heap [] 0 0 QQ (F0 mm 0 ls []) := fun X Y hX hY h => by rw [hX, hY, eH, eL] at h; exact h
  refine goal H locs rfl rfl ?_
  clear goal eH eL
  obtain ⟨hx, hb, hml, hown, hts, hlocks⟩ := hfx
  have hown : ss.vm.findClass RX4 = some mm.cls := hown
  have hl : lv_has ls 3 [(0, .ref (q 0)), (1, .int (nI c))] := hl
  have z1 := ixF_le C x
  have z2 := brg_len (L := C) (x := x) hC
  refine lv_aload_n hx hb dX4_cacheOwn_0 rfl (lv_at hl 0 rfl) ?_
  refine lv_iload_n hx hb dX4_cacheOwn_1 rfl (lv_at hl 1 rfl) ?_
  refine gc_Si (va_runV (As := [.int (nI c)]) (rest := []) ⟨hx, hb, hml, hown, hts⟩ (c_X4_findOwn l D cy q T U ca zs tl9 C x c hc hca hsz hC hx9) (cwV 1 hts gX4_cacheOwn_X4_findOwn rfl rfl rfl (by decide +kernel) ⟨Nat.le_of_ble_eq_true rfl, Nat.le_of_ble_eq_true rfl⟩) (gpVR (ci := 4) (q0 := 0) hG (hP.sub [0, 1, 2, 3] rfl) rfl rfl) rfl rfl hl.1 rfl (lv_room (Nat.le_of_ble_eq_true rfl)) dX4_cacheOwn_2 ⟨Nat.zero_le _, Nat.zero_le _⟩) ?_
  refine lv_istore_n (lv' := [(2, .int (fnd C x)), (0, .ref (q 0)), (1, .int (nI c))]) hx hb dX4_cacheOwn_5 rfl hl (by decide) rfl (fun ls hl => ?_)
  refine lv_aload_n hx hb dX4_cacheOwn_6 rfl (lv_at hl 1 rfl) ?_
  refine lv_aload_n hx hb dX4_cacheOwn_7 rfl (lv_at hl 1 rfl) ?_
  refine va_get (D := D) (ci := 4) (v := .ref (q 7)) (C := RX4) (T := TX4) (N := 17) hx hb hts iX4_cacheOwn_X4 hown hG.1 hP 0 rfl rfl 7 (by decide) (hts (.fieldLink RX4 29 "DirtyTilesModel" "owns" "[I") (by decide +kernel)) (fun _ h9 => h9) rfl dX4_cacheOwn_8 ?_
  refine lv_bipush (v := nI 112) hx hb dX4_cacheOwn_11 (by decide) ?_
  refine lv_iload_n hx hb dX4_cacheOwn_13 rfl (lv_at hl 2 rfl) ?_
  refine lv_imul hx hb dX4_cacheOwn_14 ?_
  refine g_ti (y := nI (112 * c)) (pk_mul _ _) ?_
  refine lv_iload_n hx hb dX4_cacheOwn_15 rfl (lv_at hl 0 rfl) ?_
  refine lv_iconst (v := (-1)) hx hb dX4_cacheOwn_16 (by decide) ?_
  refine lv_icmp_ne (tgt := 29) hx hb dX4_cacheOwn_17 (by decide) (fun c_17 => ?_) (fun c_17 => ?_)
  · skip
    refine lv_iload_n hx hb dX4_cacheOwn_29 rfl (lv_at hl 0 rfl) ?_
    refine g_ti (y := nI (ixF C x)) ((fnd_ne c_17).2) ?_
    refine gc_Wv (wn := fun u => [(q 0, eMod T q U), (q 7, eI cy 224 u), (q 8, eI cy 2 zs), (q 16, eI cy 16 tl9)]) (wr := [(q 8, eI cy 2 zs)]) (va_runV (As := [.ref (q 7), .int (nI (112 * c)), .int (nI (ixF C x))]) (rest := []) ⟨hx, hb, hml, hown, hts⟩ (c_X4_shift l D cy H.size q T U (q 7) ca tl9 (112 * c) (ixF C x) (by omega) (by omega)) (cwV 3 hts gX4_cacheOwn_X4_shift rfl rfl rfl (by decide +kernel) ⟨Nat.le_of_ble_eq_true rfl, Nat.le_of_ble_eq_true rfl⟩) (gpVI (ci := 4) (q0 := 0) hG (hP.sub [0, 1, 3] rfl) (hD.sub [0, 1, 3] (by decide) rfl) rfl rfl) rfl rfl hl.1 rfl (lv_room (Nat.le_of_ble_eq_true rfl)) dX4_cacheOwn_30 ⟨Nat.zero_le _, Nat.zero_le _⟩) hP hD hS hA [0, 1, 3] [2] [1, 2, 0, 3] rfl rfl (by decide) (by decide) (fun _ => rfl) (by decide) (fun ca1 H locs hw_30 hP hD hS => ?_)
    have hP : va_P D vwCl [(q 0, eMod T q U), (q 7, eI cy 224 ca1), (q 8, eI cy 2 zs), (q 16, eI cy 16 tl9)] H := hP
    have hD : va_D AA [(q 0, eMod T q U), (q 7, eI cy 224 ca1), (q 8, eI cy 2 zs), (q 16, eI cy 16 tl9)] := hD
    have hw_30 : ∀ j, ca1 j = if (112 * c) ≤ j ∧ j < (112 * c) + 16 then tl9 (j - (112 * c)) else if (112 * c) + 16 ≤ j ∧ j < (112 * c) + 16 * (ixF C x) + 16 then ca (j - 16) else ca j := hw_30
    refine lv_aload_n hx hb dX4_cacheOwn_33 rfl (lv_at hl 1 rfl) ?_
    refine va_get (D := D) (ci := 4) (v := .ref (q 8)) (C := RX4) (T := TX4) (N := 17) hx hb hts iX4_cacheOwn_X4 hown hG.1 hP 0 rfl rfl 8 (by decide) (hts (.fieldLink RX4 32 "DirtyTilesModel" "ownSizes" "[I") (by decide +kernel)) (fun _ h9 => h9) rfl dX4_cacheOwn_34 ?_
    refine lv_iload_n hx hb dX4_cacheOwn_37 rfl (lv_at hl 2 rfl) ?_
    refine lv_dup2_11 hx hb dX4_cacheOwn_38 rfl rfl ?_
    refine g_iald hx hb hG hP 2 0 rfl rfl (k := c) (by omega) (by decide) dX4_cacheOwn_39 ?_
    refine g_ti (y := nI C.length) (hsz) ?_
    refine lv_iload_n hx hb dX4_cacheOwn_40 rfl (lv_at hl 0 rfl) ?_
    refine lv_iconst (v := (-1)) hx hb dX4_cacheOwn_41 (by decide) ?_
    refine lv_icmp_ne (tgt := 60) hx hb dX4_cacheOwn_42 (by decide) (fun c_42 => ?_) (fun c_42 => ?_)
    · skip
      refine lv_iconst (v := nI 0) hx hb dX4_cacheOwn_60 (by decide) ?_
      refine lv_iadd hx hb dX4_cacheOwn_61 ?_
      refine g_ti (y := nI (C.length + 0)) (nI_add _ _) ?_
      refine g_iast hx hb hG hP hD hS 2 0 rfl rfl (k := c) (by omega) (by decide) dX4_cacheOwn_62 (fun H locs hP hD hS => ?_)
      have hP : va_P D vwCl [(q 0, eMod T q U), (q 7, eI cy 224 ca1), (q 8, eI cy 2 (upd zs c (nI (C.length + 0)))), (q 16, eI cy 16 tl9)] H := hP
      have hD : va_D AA [(q 0, eMod T q U), (q 7, eI cy 224 ca1), (q 8, eI cy 2 (upd zs c (nI (C.length + 0)))), (q 16, eI cy 16 tl9)] := hD
      exact hret _ _ _ _ ⟨ca1, upd zs c (nI (C.length + 0))⟩ dX4_cacheOwn_63 (by have hb9 := brg_cells hc hca hC hx9 hw_30; refine ⟨hb9.1, ?_, hb9.2, kO_up (kO_rf _ _ _) ⟨by omega, by omega⟩⟩; show upd _ _ _ _ = _; rw [pk_us, z2]; first | exact absurd c_17 c_42 | exact absurd c_42 c_17 | (have q1 := fnd_eq hC c_17; first | (rw [if_pos ⟨q1, by omega⟩]; done) | (rw [if_neg (by omega)]; rfl)) | (have q1 := (fnd_ne c_17).1; rw [if_neg (by omega)]; rfl)) (hP.sub [0, 1, 2, 3] rfl) (hD.sub [0, 1, 2, 3] (by decide) rfl) hS
    · skip
      refine lv_aload_n hx hb dX4_cacheOwn_45 rfl (lv_at hl 1 rfl) ?_
      refine va_get (D := D) (ci := 4) (v := .ref (q 8)) (C := RX4) (T := TX4) (N := 17) hx hb hts iX4_cacheOwn_X4 hown hG.1 hP 0 rfl rfl 8 (by decide) (hts (.fieldLink RX4 32 "DirtyTilesModel" "ownSizes" "[I") (by decide +kernel)) (fun _ h9 => h9) rfl dX4_cacheOwn_46 ?_
      refine lv_iload_n hx hb dX4_cacheOwn_49 rfl (lv_at hl 2 rfl) ?_
      refine g_iald hx hb hG hP 2 0 rfl rfl (k := c) (by omega) (by decide) dX4_cacheOwn_50 ?_
      refine g_ti (y := nI C.length) (hsz) ?_
      refine lv_bipush (v := nI 6) hx hb dX4_cacheOwn_51 (by decide) ?_
      refine lv_icmp_ge (tgt := 60) hx hb dX4_cacheOwn_53 (by decide) (fun c_53 => ?_) (fun c_53 => ?_)
      · skip
        have c_53 : 6 ≤ C.length := (nI_leI (a := 6) (b := C.length) (by omega) (by omega)).mp c_53
        refine lv_iconst (v := nI 0) hx hb dX4_cacheOwn_60 (by decide) ?_
        refine lv_iadd hx hb dX4_cacheOwn_61 ?_
        refine g_ti (y := nI (C.length + 0)) (nI_add _ _) ?_
        refine g_iast hx hb hG hP hD hS 2 0 rfl rfl (k := c) (by omega) (by decide) dX4_cacheOwn_62 (fun H locs hP hD hS => ?_)
        have hP : va_P D vwCl [(q 0, eMod T q U), (q 7, eI cy 224 ca1), (q 8, eI cy 2 (upd zs c (nI (C.length + 0)))), (q 16, eI cy 16 tl9)] H := hP
        have hD : va_D AA [(q 0, eMod T q U), (q 7, eI cy 224 ca1), (q 8, eI cy 2 (upd zs c (nI (C.length + 0)))), (q 16, eI cy 16 tl9)] := hD
        exact hret _ _ _ _ ⟨ca1, upd zs c (nI (C.length + 0))⟩ dX4_cacheOwn_63 (by have hb9 := brg_cells hc hca hC hx9 hw_30; refine ⟨hb9.1, ?_, hb9.2, kO_up (kO_rf _ _ _) ⟨by omega, by omega⟩⟩; show upd _ _ _ _ = _; rw [pk_us, z2]; first | exact absurd c_17 c_42 | exact absurd c_42 c_17 | (have q1 := fnd_eq hC c_17; first | (rw [if_pos ⟨q1, by omega⟩]; done) | (rw [if_neg (by omega)]; rfl)) | (have q1 := (fnd_ne c_17).1; rw [if_neg (by omega)]; rfl)) (hP.sub [0, 1, 2, 3] rfl) (hD.sub [0, 1, 2, 3] (by decide) rfl) hS
      · skip
        have c_53 : ¬ 6 ≤ C.length := fun z => c_53 ((nI_leI (a := 6) (b := C.length) (by omega) (by omega)).mpr z)
        refine lv_iconst (v := nI 1) hx hb dX4_cacheOwn_56 (by decide) ?_
        refine lv_goto (tgt := 61) hx hb dX4_cacheOwn_57 (by decide) ?_
        refine lv_iadd hx hb dX4_cacheOwn_61 ?_
        refine g_ti (y := nI (C.length + 1)) (nI_add _ _) ?_
        refine g_iast hx hb hG hP hD hS 2 0 rfl rfl (k := c) (by omega) (by decide) dX4_cacheOwn_62 (fun H locs hP hD hS => ?_)
        have hP : va_P D vwCl [(q 0, eMod T q U), (q 7, eI cy 224 ca1), (q 8, eI cy 2 (upd zs c (nI (C.length + 1)))), (q 16, eI cy 16 tl9)] H := hP
        have hD : va_D AA [(q 0, eMod T q U), (q 7, eI cy 224 ca1), (q 8, eI cy 2 (upd zs c (nI (C.length + 1)))), (q 16, eI cy 16 tl9)] := hD
        exact hret _ _ _ _ ⟨ca1, upd zs c (nI (C.length + 1))⟩ dX4_cacheOwn_63 (by have hb9 := brg_cells hc hca hC hx9 hw_30; refine ⟨hb9.1, ?_, hb9.2, kO_up (kO_rf _ _ _) ⟨by omega, by omega⟩⟩; show upd _ _ _ _ = _; rw [pk_us, z2]; first | exact absurd c_17 c_42 | exact absurd c_42 c_17 | (have q1 := fnd_eq hC c_17; first | (rw [if_pos ⟨q1, by omega⟩]; done) | (rw [if_neg (by omega)]; rfl)) | (have q1 := (fnd_ne c_17).1; rw [if_neg (by omega)]; rfl)) (hP.sub [0, 1, 2, 3] rfl) (hD.sub [0, 1, 2, 3] (by decide) rfl) hS
  · skip
    refine lv_aload_n hx hb dX4_cacheOwn_20 rfl (lv_at hl 1 rfl) ?_
    refine va_get (D := D) (ci := 4) (v := .ref (q 8)) (C := RX4) (T := TX4) (N := 17) hx hb hts iX4_cacheOwn_X4 hown hG.1 hP 0 rfl rfl 8 (by decide) (hts (.fieldLink RX4 32 "DirtyTilesModel" "ownSizes" "[I") (by decide +kernel)) (fun _ h9 => h9) rfl dX4_cacheOwn_21 ?_
    refine lv_iload_n hx hb dX4_cacheOwn_24 rfl (lv_at hl 2 rfl) ?_
    refine g_iald hx hb hG hP 2 0 rfl rfl (k := c) (by omega) (by decide) dX4_cacheOwn_25 ?_
    refine g_ti (y := nI (ixF C x)) (by rw [hsz, fnd_eq hC c_17]) ?_
    refine lv_goto (tgt := 30) hx hb dX4_cacheOwn_26 (by decide) ?_
    refine gc_Wv (wn := fun u => [(q 0, eMod T q U), (q 7, eI cy 224 u), (q 8, eI cy 2 zs), (q 16, eI cy 16 tl9)]) (wr := [(q 8, eI cy 2 zs)]) (va_runV (As := [.ref (q 7), .int (nI (112 * c)), .int (nI (ixF C x))]) (rest := []) ⟨hx, hb, hml, hown, hts⟩ (c_X4_shift l D cy H.size q T U (q 7) ca tl9 (112 * c) (ixF C x) (by omega) (by omega)) (cwV 3 hts gX4_cacheOwn_X4_shift rfl rfl rfl (by decide +kernel) ⟨Nat.le_of_ble_eq_true rfl, Nat.le_of_ble_eq_true rfl⟩) (gpVI (ci := 4) (q0 := 0) hG (hP.sub [0, 1, 3] rfl) (hD.sub [0, 1, 3] (by decide) rfl) rfl rfl) rfl rfl hl.1 rfl (lv_room (Nat.le_of_ble_eq_true rfl)) dX4_cacheOwn_30 ⟨Nat.zero_le _, Nat.zero_le _⟩) hP hD hS hA [0, 1, 3] [2] [1, 2, 0, 3] rfl rfl (by decide) (by decide) (fun _ => rfl) (by decide) (fun ca1_2 H locs hw_30 hP hD hS => ?_)
    have hP : va_P D vwCl [(q 0, eMod T q U), (q 7, eI cy 224 ca1_2), (q 8, eI cy 2 zs), (q 16, eI cy 16 tl9)] H := hP
    have hD : va_D AA [(q 0, eMod T q U), (q 7, eI cy 224 ca1_2), (q 8, eI cy 2 zs), (q 16, eI cy 16 tl9)] := hD
    have hw_30 : ∀ j, ca1_2 j = if (112 * c) ≤ j ∧ j < (112 * c) + 16 then tl9 (j - (112 * c)) else if (112 * c) + 16 ≤ j ∧ j < (112 * c) + 16 * (ixF C x) + 16 then ca (j - 16) else ca j := hw_30
    refine lv_aload_n hx hb dX4_cacheOwn_33 rfl (lv_at hl 1 rfl) ?_
    refine va_get (D := D) (ci := 4) (v := .ref (q 8)) (C := RX4) (T := TX4) (N := 17) hx hb hts iX4_cacheOwn_X4 hown hG.1 hP 0 rfl rfl 8 (by decide) (hts (.fieldLink RX4 32 "DirtyTilesModel" "ownSizes" "[I") (by decide +kernel)) (fun _ h9 => h9) rfl dX4_cacheOwn_34 ?_
    refine lv_iload_n hx hb dX4_cacheOwn_37 rfl (lv_at hl 2 rfl) ?_
    refine lv_dup2_11 hx hb dX4_cacheOwn_38 rfl rfl ?_
    refine g_iald hx hb hG hP 2 0 rfl rfl (k := c) (by omega) (by decide) dX4_cacheOwn_39 ?_
    refine g_ti (y := nI C.length) (hsz) ?_
    refine lv_iload_n hx hb dX4_cacheOwn_40 rfl (lv_at hl 0 rfl) ?_
    refine lv_iconst (v := (-1)) hx hb dX4_cacheOwn_41 (by decide) ?_
    refine lv_icmp_ne (tgt := 60) hx hb dX4_cacheOwn_42 (by decide) (fun c_42 => ?_) (fun c_42 => ?_)
    · skip
      refine lv_iconst (v := nI 0) hx hb dX4_cacheOwn_60 (by decide) ?_
      refine lv_iadd hx hb dX4_cacheOwn_61 ?_
      refine g_ti (y := nI (C.length + 0)) (nI_add _ _) ?_
      refine g_iast hx hb hG hP hD hS 2 0 rfl rfl (k := c) (by omega) (by decide) dX4_cacheOwn_62 (fun H locs hP hD hS => ?_)
      have hP : va_P D vwCl [(q 0, eMod T q U), (q 7, eI cy 224 ca1_2), (q 8, eI cy 2 (upd zs c (nI (C.length + 0)))), (q 16, eI cy 16 tl9)] H := hP
      have hD : va_D AA [(q 0, eMod T q U), (q 7, eI cy 224 ca1_2), (q 8, eI cy 2 (upd zs c (nI (C.length + 0)))), (q 16, eI cy 16 tl9)] := hD
      exact hret _ _ _ _ ⟨ca1_2, upd zs c (nI (C.length + 0))⟩ dX4_cacheOwn_63 (by have hb9 := brg_cells hc hca hC hx9 hw_30; refine ⟨hb9.1, ?_, hb9.2, kO_up (kO_rf _ _ _) ⟨by omega, by omega⟩⟩; show upd _ _ _ _ = _; rw [pk_us, z2]; first | exact absurd c_17 c_42 | exact absurd c_42 c_17 | (have q1 := fnd_eq hC c_17; first | (rw [if_pos ⟨q1, by omega⟩]; done) | (rw [if_neg (by omega)]; rfl)) | (have q1 := (fnd_ne c_17).1; rw [if_neg (by omega)]; rfl)) (hP.sub [0, 1, 2, 3] rfl) (hD.sub [0, 1, 2, 3] (by decide) rfl) hS
    · skip
      refine lv_aload_n hx hb dX4_cacheOwn_45 rfl (lv_at hl 1 rfl) ?_
      refine va_get (D := D) (ci := 4) (v := .ref (q 8)) (C := RX4) (T := TX4) (N := 17) hx hb hts iX4_cacheOwn_X4 hown hG.1 hP 0 rfl rfl 8 (by decide) (hts (.fieldLink RX4 32 "DirtyTilesModel" "ownSizes" "[I") (by decide +kernel)) (fun _ h9 => h9) rfl dX4_cacheOwn_46 ?_
      refine lv_iload_n hx hb dX4_cacheOwn_49 rfl (lv_at hl 2 rfl) ?_
      refine g_iald hx hb hG hP 2 0 rfl rfl (k := c) (by omega) (by decide) dX4_cacheOwn_50 ?_
      refine g_ti (y := nI C.length) (hsz) ?_
      refine lv_bipush (v := nI 6) hx hb dX4_cacheOwn_51 (by decide) ?_
      refine lv_icmp_ge (tgt := 60) hx hb dX4_cacheOwn_53 (by decide) (fun c_53 => ?_) (fun c_53 => ?_)
      · skip
        have c_53 : 6 ≤ C.length := (nI_leI (a := 6) (b := C.length) (by omega) (by omega)).mp c_53
        refine lv_iconst (v := nI 0) hx hb dX4_cacheOwn_60 (by decide) ?_
        refine lv_iadd hx hb dX4_cacheOwn_61 ?_
        refine g_ti (y := nI (C.length + 0)) (nI_add _ _) ?_
        refine g_iast hx hb hG hP hD hS 2 0 rfl rfl (k := c) (by omega) (by decide) dX4_cacheOwn_62 (fun H locs hP hD hS => ?_)
        have hP : va_P D vwCl [(q 0, eMod T q U), (q 7, eI cy 224 ca1_2), (q 8, eI cy 2 (upd zs c (nI (C.length + 0)))), (q 16, eI cy 16 tl9)] H := hP
        have hD : va_D AA [(q 0, eMod T q U), (q 7, eI cy 224 ca1_2), (q 8, eI cy 2 (upd zs c (nI (C.length + 0)))), (q 16, eI cy 16 tl9)] := hD
        exact hret _ _ _ _ ⟨ca1_2, upd zs c (nI (C.length + 0))⟩ dX4_cacheOwn_63 (by have hb9 := brg_cells hc hca hC hx9 hw_30; refine ⟨hb9.1, ?_, hb9.2, kO_up (kO_rf _ _ _) ⟨by omega, by omega⟩⟩; show upd _ _ _ _ = _; rw [pk_us, z2]; first | exact absurd c_17 c_42 | exact absurd c_42 c_17 | (have q1 := fnd_eq hC c_17; first | (rw [if_pos ⟨q1, by omega⟩]; done) | (rw [if_neg (by omega)]; rfl)) | (have q1 := (fnd_ne c_17).1; rw [if_neg (by omega)]; rfl)) (hP.sub [0, 1, 2, 3] rfl) (hD.sub [0, 1, 2, 3] (by decide) rfl) hS
      · skip
        have c_53 : ¬ 6 ≤ C.length := fun z => c_53 ((nI_leI (a := 6) (b := C.length) (by omega) (by omega)).mpr z)
        refine lv_iconst (v := nI 1) hx hb dX4_cacheOwn_56 (by decide) ?_
        refine lv_goto (tgt := 61) hx hb dX4_cacheOwn_57 (by decide) ?_
        refine lv_iadd hx hb dX4_cacheOwn_61 ?_
        refine g_ti (y := nI (C.length + 1)) (nI_add _ _) ?_
        refine g_iast hx hb hG hP hD hS 2 0 rfl rfl (k := c) (by omega) (by decide) dX4_cacheOwn_62 (fun H locs hP hD hS => ?_)
        have hP : va_P D vwCl [(q 0, eMod T q U), (q 7, eI cy 224 ca1_2), (q 8, eI cy 2 (upd zs c (nI (C.length + 1)))), (q 16, eI cy 16 tl9)] H := hP
        have hD : va_D AA [(q 0, eMod T q U), (q 7, eI cy 224 ca1_2), (q 8, eI cy 2 (upd zs c (nI (C.length + 1)))), (q 16, eI cy 16 tl9)] := hD
        exact hret _ _ _ _ ⟨ca1_2, upd zs c (nI (C.length + 1))⟩ dX4_cacheOwn_63 (by have hb9 := brg_cells hc hca hC hx9 hw_30; refine ⟨hb9.1, ?_, hb9.2, kO_up (kO_rf _ _ _) ⟨by omega, by omega⟩⟩; show upd _ _ _ _ = _; rw [pk_us, z2]; first | exact absurd c_17 c_42 | exact absurd c_42 c_17 | (have q1 := fnd_eq hC c_17; first | (rw [if_pos ⟨q1, by omega⟩]; done) | (rw [if_neg (by omega)]; rfl)) | (have q1 := (fnd_ne c_17).1; rw [if_neg (by omega)]; rfl)) (hP.sub [0, 1, 2, 3] rfl) (hD.sub [0, 1, 2, 3] (by decide) rfl) hS
