/-! the class: colours, runs, ways -/
/-! Integer.bitCount below 65536, by trying all -/
def bc1 (n : Nat) : Nat := Nat.sub n (Nat.land (Nat.div n 2) 1431655765)
def bc2 (n : Nat) : Nat := Nat.add (Nat.land n 858993459) (Nat.land (Nat.div n 4) 858993459)
def bc3 (n : Nat) : Nat := Nat.land (Nat.add n (Nat.div n 16)) 252645135
def bc4 (n : Nat) : Nat := Nat.add n (Nat.div n 256)
def bc5 (n : Nat) : Nat := Nat.add n (Nat.div n 65536)
def bcF (n : Nat) : Nat := Nat.land (bc5 (bc4 (bc3 (bc2 (bc1 n))))) 63
noncomputable def bcK (k : Nat) : Nat → Nat → Bool := Nat.rec (motive := fun _ => Nat → Nat → Bool) (fun b q => Nat.beq (bcF b) q) (fun _ ih b q => and (ih (Nat.mul 2 b) q) (ih (Nat.succ (Nat.mul 2 b)) (Nat.succ q))) k
theorem bcK_ok : bcK 16 0 0 = true := by decide +kernel
theorem bcK_use : ∀ (k b q : Nat), bcK k b q = true → ∀ n, n / 2 ^ k = b → bcF n = q + fb_ct (fun c => n.testBit c) k
  | 0, b, q, h, n, hn => by
    have h1 : Nat.beq (bcF b) q = true := h
    have h2 : n = b := by rw [Nat.pow_zero, Nat.div_one] at hn; exact hn
    rw [h2]
    exact Nat.eq_of_beq_eq_true h1
  | k + 1, b, q, h, n, hn => by
    have h1 : and (bcK k (2 * b) q) (bcK k (2 * b + 1) (q + 1)) = true := h
    rw [Bool.and_eq_true] at h1
    have hd : n / 2 ^ k / 2 = b := by rw [Nat.div_div_eq_div_mul, ← Nat.pow_succ]; exact hn
    have hb : n.testBit k = decide (n / 2 ^ k % 2 = 1) := Nat.testBit_eq_decide_div_mod_eq
    rw [fb_ct_succ]
    rcases Nat.mod_two_eq_zero_or_one (n / 2 ^ k) with e | e
    · rw [bcK_use k (2 * b) q h1.1 n (by omega), hb, e]; rfl
    · rw [bcK_use k (2 * b + 1) (q + 1) h1.2 n (by omega), hb, e]
      simp only [decide_true, if_true]
      omega
def popN (n : Nat) : Nat := fb_ct (fun c => n.testBit c) 16
theorem bc_pop {n : Nat} (h : n < 65536) : bcF n = popN n := by
  have := bcK_use 16 0 0 bcK_ok n (Nat.div_eq_of_lt h)
  rw [this, Nat.zero_add]; rfl
theorem popN_le (n : Nat) : popN n ≤ 16 := fb_ct_le _ _
theorem popN_or {n c : Nat} (hc : c < 16) : popN (n ||| 2 ^ c) = popN n + if n.testBit c then 0 else 1 := by
  have h := fb_ct_upd (fun k => n.testBit k) true hc
  have e : (fun k => if k = c then true else n.testBit k) = fun k => (n ||| 2 ^ c).testBit k := by
    funext k
    rw [fb_bit_set]
    by_cases hk : k = c
    · rw [if_pos hk, decide_eq_true hk, Bool.or_true]
    · rw [if_neg hk, decide_eq_false hk, Bool.or_false]
  rw [e] at h
  unfold popN
  by_cases ht : n.testBit c = true
  · simp only [ht, if_true] at h ⊢; omega
  · have ht' : n.testBit c = false := by simpa using ht
    simp only [ht', if_true] at h ⊢
    simp at h ⊢
    omega
/-- the colours that the first i cells of a tile have, as a set of bits -/
def metN (x : Int64) : Nat → Nat
  | 0 => 0
  | i + 1 => metN x i ||| 2 ^ cel x i
theorem metN_lt (x : Int64) : ∀ i, metN x i < 65536
  | 0 => show (0 : Nat) < 65536 by decide
  | i + 1 => by
    have h1 : metN x i < 2 ^ 16 := metN_lt x i
    have h2 : 2 ^ cel x i < 2 ^ 16 := Nat.pow_lt_pow_right (by decide) (cel_lt x i)
    exact Nat.or_lt_two_pow h1 h2
def nCol (x : Int64) : Nat := popN (metN x 16)
theorem nCol_le (x : Int64) : nCol x ≤ 16 := popN_le _
def runF (x : Int64) : Nat → Nat
  | 0 => 1
  | i + 1 => runF x i + if cel x (i + 1) = cel x i then 0 else 1
theorem runF_le (x : Int64) : ∀ i, runF x i ≤ i + 1
  | 0 => Nat.le_refl _
  | i + 1 => by have := runF_le x i; unfold runF; split <;> omega
def nRun (x : Int64) : Nat := runF x 15
theorem nRun_le (x : Int64) : nRun x ≤ 16 := runF_le x 15
/-- in how many cells two tiles differ -/
def difF (x y : Int64) : Nat → Nat
  | 0 => 0
  | i + 1 => difF x y i + if cel x i = cel y i then 0 else 1
theorem difF_le (x y : Int64) : ∀ i, difF x y i ≤ i
  | 0 => Nat.le_refl _
  | i + 1 => by have := difF_le x y i; unfold difF; split <;> omega
def nDif (x y : Int64) : Nat := difF x y 16
theorem nDif_le (x y : Int64) : nDif x y ≤ 16 := difF_le x y 16
def ubc (n : Nat) : Nat := if n = 2 then 10 else if n = 3 then 15 else if n = 4 then 16 else 99
/-- the units of a tile in each of the ways, 99 where it can't be -/
def unW (L : List Int64) (x : Int64) : Nat → Nat
  | 0 => if ixF L x < L.length then 2 else 99
  | 1 => if nCol x = 1 then 3 else 99
  | 2 => ubc (nCol x)
  | 3 => 1 + 2 * nRun x
  | _ => 17
theorem unW_le (L : List Int64) (x : Int64) (c : Nat) : unW L x c ≤ 99 := by
  have := nRun_le x
  match c with
  | 0 => show (if _ then _ else _) ≤ 99; split <;> omega
  | 1 => show (if _ then _ else _) ≤ 99; split <;> omega
  | 2 => show ubc _ ≤ 99; unfold ubc; repeat' split
         all_goals omega
  | 3 => show 1 + 2 * nRun x ≤ 99; omega
  | n + 4 => show 17 ≤ 99; omega
def cwF (u : Nat → Nat) : Nat → Nat × Nat
  | 0 => (0, 99)
  | i + 1 => if u i < (cwF u i).2 then (i, u i) else cwF u i
theorem cwF_le (u : Nat → Nat) : ∀ i, (cwF u i).1 ≤ i ∧ (cwF u i).2 ≤ 99
  | 0 => ⟨Nat.le_refl _, Nat.le_refl _⟩
  | i + 1 => by
    have h := cwF_le u i
    unfold cwF
    split
    · exact ⟨Nat.le_succ i, by show u i ≤ 99; omega⟩
    · exact ⟨by omega, h.2⟩
theorem cwF_t {u : Nat → Nat} {i w b : Nat} (h : (w, b) = cwF u i) (hc : u i < b) : (i, u i) = cwF u (i + 1) := by
  show _ = if u i < (cwF u i).2 then (i, u i) else cwF u i
  rw [← h, if_pos hc]
theorem cwF_f {u : Nat → Nat} {i w b : Nat} (h : (w, b) = cwF u i) (hc : ¬ u i < b) : (w, b) = cwF u (i + 1) := by
  show _ = if u i < (cwF u i).2 then (i, u i) else cwF u i
  rw [← h, if_neg hc]
/-- 100 times the way plus its units -/
def wayO (L : List Int64) (x : Int64) : Nat := 100 * (cwF (unW L x) 5).1 + (cwF (unW L x) 5).2
theorem lt_ret {a b : Nat} (h : a = b) : nI a = nI b := by rw [h]
theorem bc_bnd {n : Nat} (hn : n < 65536) : bc1 n < 2 ^ 16 ∧ bc2 (bc1 n) < 2 ^ 18 ∧ bc3 (bc2 (bc1 n)) < 2 ^ 20 ∧ bc4 (bc3 (bc2 (bc1 n))) < 2 ^ 22 ∧ n / 2 &&& 1431655765 ≤ n := by
  have h1 : bc1 n ≤ n := Nat.sub_le _ _
  have h2 : bc2 (bc1 n) ≤ bc1 n + bc1 n / 4 := Nat.add_le_add (Nat.and_le_left) (Nat.and_le_left)
  have h3 : bc3 (bc2 (bc1 n)) ≤ bc2 (bc1 n) + bc2 (bc1 n) / 16 := Nat.and_le_left
  have h4 : bc4 (bc3 (bc2 (bc1 n))) = bc3 (bc2 (bc1 n)) + bc3 (bc2 (bc1 n)) / 256 := rfl
  have h5 : n / 2 &&& 1431655765 ≤ n / 2 := Nat.and_le_left
  refine ⟨by omega, by omega, by omega, by omega, by omega⟩
set_option maxHeartbeats 4000000 in
set_option maxRecDepth 100000 in
theorem c_J6_bitCount_0f7a4 (l : Launch) (D : va_G) (cy : Nat → ClassId) (n : Nat) (hn : n < 65536) : Met l yJ6_bitCount_0f7a4 wsJ6_bitCount_0f7a4 ({ frames := 0, cells := 0, slots := 0, locals := 0 } : Room) (va_Pc [.int (nI n)] (gR D (gT cy) [])) (vp_Si (fun r9 => r9 = nI (popN n))) 0 0 (fun _ => False) := by
  refine gM_i (cc := cJ6_bitCount_0f7a4) (maxL := 1) (ty := .int) (by decide) rfl (Nat.le_of_ble_eq_true rfl) (fun v hv => by rw [hv]; first | rfl | exact gb_nar _) ?_
  intro pp ee ss mm bw mt cd QQ ls hfx hP hG hret hl
  obtain ⟨hx, hb, hml, hown, hts, hlocks⟩ := hfx
  have hown : ss.vm.findClass RJ6 = some mm.cls := hown
  have hl : lv_has ls 1 [(0, .int (nI n))] := hl
  obtain ⟨q1, q2, q3, q4, q5⟩ := bc_bnd hn
  refine lv_iload_n hx hb dJ6_bitCount_0f7a4_0 rfl (lv_at hl 0 rfl) ?_
  refine lv_iload_n hx hb dJ6_bitCount_0f7a4_1 rfl (lv_at hl 0 rfl) ?_
  refine lv_iconst (v := nI 1) hx hb dJ6_bitCount_0f7a4_2 (by decide) ?_
  refine lv_iushr hx hb dJ6_bitCount_0f7a4_3 rfl ?_
  refine g_ti (y := nI (n / 2)) (pk_ushrN (by omega) (nI 1) 1 (by decide)) ?_
  refine lv_ldcw (v := (1431655765)) hx hb hown (hts (.constant RJ6 265 (1431655765)) (by decide +kernel)) dJ6_bitCount_0f7a4_4 ?_
  refine lv_iand hx hb dJ6_bitCount_0f7a4_7 ?_
  refine g_ti (y := nI (n / 2 &&& 1431655765)) (fa_and _ _) ?_
  refine lv_isub hx hb dJ6_bitCount_0f7a4_8 ?_
  refine g_ti (y := nI (bc1 n)) (pk_sub q5) ?_
  refine lv_istore_n (lv' := [(0, .int (nI (bc1 n)))]) hx hb dJ6_bitCount_0f7a4_9 rfl hl (by decide) rfl (fun ls hl => ?_)
  refine lv_iload_n hx hb dJ6_bitCount_0f7a4_10 rfl (lv_at hl 0 rfl) ?_
  refine lv_ldcw (v := (858993459)) hx hb hown (hts (.constant RJ6 266 (858993459)) (by decide +kernel)) dJ6_bitCount_0f7a4_11 ?_
  refine lv_iand hx hb dJ6_bitCount_0f7a4_14 ?_
  refine g_ti (y := nI (bc1 n &&& 858993459)) (fa_and _ _) ?_
  refine lv_iload_n hx hb dJ6_bitCount_0f7a4_15 rfl (lv_at hl 0 rfl) ?_
  refine lv_iconst (v := nI 2) hx hb dJ6_bitCount_0f7a4_16 (by decide) ?_
  refine lv_iushr hx hb dJ6_bitCount_0f7a4_17 rfl ?_
  refine g_ti (y := nI (bc1 n / 4)) (pk_ushrN (by omega) (nI 2) 2 (by decide)) ?_
  refine lv_ldcw (v := (858993459)) hx hb hown (hts (.constant RJ6 266 (858993459)) (by decide +kernel)) dJ6_bitCount_0f7a4_18 ?_
  refine lv_iand hx hb dJ6_bitCount_0f7a4_21 ?_
  refine g_ti (y := nI (bc1 n / 4 &&& 858993459)) (fa_and _ _) ?_
  refine lv_iadd hx hb dJ6_bitCount_0f7a4_22 ?_
  refine g_ti (y := nI (bc2 (bc1 n))) (nI_add _ _) ?_
  refine lv_istore_n (lv' := [(0, .int (nI (bc2 (bc1 n))))]) hx hb dJ6_bitCount_0f7a4_23 rfl hl (by decide) rfl (fun ls hl => ?_)
  refine lv_iload_n hx hb dJ6_bitCount_0f7a4_24 rfl (lv_at hl 0 rfl) ?_
  refine lv_iload_n hx hb dJ6_bitCount_0f7a4_25 rfl (lv_at hl 0 rfl) ?_
  refine lv_iconst (v := nI 4) hx hb dJ6_bitCount_0f7a4_26 (by decide) ?_
  refine lv_iushr hx hb dJ6_bitCount_0f7a4_27 rfl ?_
  refine g_ti (y := nI (bc2 (bc1 n) / 16)) (pk_ushrN (by omega) (nI 4) 4 (by decide)) ?_
  refine lv_iadd hx hb dJ6_bitCount_0f7a4_28 ?_
  refine g_ti (y := nI (bc2 (bc1 n) + bc2 (bc1 n) / 16)) (nI_add _ _) ?_
  refine lv_ldcw (v := (252645135)) hx hb hown (hts (.constant RJ6 267 (252645135)) (by decide +kernel)) dJ6_bitCount_0f7a4_29 ?_
  refine lv_iand hx hb dJ6_bitCount_0f7a4_32 ?_
  refine g_ti (y := nI (bc3 (bc2 (bc1 n)))) (fa_and _ _) ?_
  refine lv_istore_n (lv' := [(0, .int (nI (bc3 (bc2 (bc1 n)))))]) hx hb dJ6_bitCount_0f7a4_33 rfl hl (by decide) rfl (fun ls hl => ?_)
  refine lv_iload_n hx hb dJ6_bitCount_0f7a4_34 rfl (lv_at hl 0 rfl) ?_
  refine lv_iload_n hx hb dJ6_bitCount_0f7a4_35 rfl (lv_at hl 0 rfl) ?_
  refine lv_bipush (v := nI 8) hx hb dJ6_bitCount_0f7a4_36 (by decide) ?_
  refine lv_iushr hx hb dJ6_bitCount_0f7a4_38 rfl ?_
  refine g_ti (y := nI (bc3 (bc2 (bc1 n)) / 256)) (pk_ushrN (by omega) (nI 8) 8 (by decide)) ?_
  refine lv_iadd hx hb dJ6_bitCount_0f7a4_39 ?_
  refine g_ti (y := nI (bc4 (bc3 (bc2 (bc1 n))))) (nI_add _ _) ?_
  refine lv_istore_n (lv' := [(0, .int (nI (bc4 (bc3 (bc2 (bc1 n))))))]) hx hb dJ6_bitCount_0f7a4_40 rfl hl (by decide) rfl (fun ls hl => ?_)
  refine lv_iload_n hx hb dJ6_bitCount_0f7a4_41 rfl (lv_at hl 0 rfl) ?_
  refine lv_iload_n hx hb dJ6_bitCount_0f7a4_42 rfl (lv_at hl 0 rfl) ?_
  refine lv_bipush (v := nI 16) hx hb dJ6_bitCount_0f7a4_43 (by decide) ?_
  refine lv_iushr hx hb dJ6_bitCount_0f7a4_45 rfl ?_
  refine g_ti (y := nI (bc4 (bc3 (bc2 (bc1 n))) / 65536)) (pk_ushrN (by omega) (nI 16) 16 (by decide)) ?_
  refine lv_iadd hx hb dJ6_bitCount_0f7a4_46 ?_
  refine g_ti (y := nI (bc5 (bc4 (bc3 (bc2 (bc1 n)))))) (nI_add _ _) ?_
  refine lv_istore_n (lv' := [(0, .int (nI (bc5 (bc4 (bc3 (bc2 (bc1 n)))))))]) hx hb dJ6_bitCount_0f7a4_47 rfl hl (by decide) rfl (fun ls hl => ?_)
  refine lv_iload_n hx hb dJ6_bitCount_0f7a4_48 rfl (lv_at hl 0 rfl) ?_
  refine lv_bipush (v := nI 63) hx hb dJ6_bitCount_0f7a4_49 (by decide) ?_
  refine lv_iand hx hb dJ6_bitCount_0f7a4_51 ?_
  refine g_ti (y := nI (bcF n)) (fa_and _ _) ?_
  exact hret _ _ _ dJ6_bitCount_0f7a4_52 (lt_ret (bc_pop hn))
set_option maxHeartbeats 4000000 in
set_option maxRecDepth 100000 in
theorem c_X3_countColours (l : Launch) (D : va_G) (cy : Nat → ClassId) (x : Int64)  : Met l yX3_countColours wsX3_countColours ({ frames := 1, cells := 0, slots := 0, locals := 22 } : Room) (va_Pc [.long x] (gR D (gT cy) [])) (vp_Si (fun r9 => r9 = nI (nCol x))) 0 0 (fun _ => False) := by
  refine gM_i (cc := cX3_countColours) (maxL := 4) (ty := .int) (by decide) rfl (Nat.le_of_ble_eq_true rfl) (fun v hv => by rw [hv]; first | rfl | exact gb_nar _) ?_
  intro pp ee ss mm bw mt cd QQ ls hfx hP hG hret hl
  obtain ⟨hx, hb, hml, hown, hts, hlocks⟩ := hfx
  have hown : ss.vm.findClass RX3 = some mm.cls := hown
  have hl : lv_has ls 4 [(0, .long x)] := hl
  refine lv_iconst (v := nI 0) hx hb dX3_countColours_0 (by decide) ?_
  refine lv_istore_n (lv' := [(2, .int (nI 0)), (0, .long x)]) hx hb dX3_countColours_1 rfl hl (by decide) rfl (fun ls hl => ?_)
  refine lv_iconst (v := nI 0) hx hb dX3_countColours_2 (by decide) ?_
  refine lv_istore_n (lv' := [(3, .int (nI 0)), (2, .int (nI 0)), (0, .long x)]) hx hb dX3_countColours_3 rfl hl (by decide) rfl (fun ls hl => ?_)
  have loop_4 : ∀ (n9 : Nat) (i : Nat), 16 - i < n9 → (i ≤ 16) → ∀ (ls : Array Slot), lv_has ls 4 [(0, .long x), (2, .int (nI (metN x i))), (3, .int (nI i))] → W pp l ee ({ frames := 1, cells := 0, slots := 0, locals := 22 } : Room) ss mm ([.long x] : List Value).toArray bw mt cd ss.heap [] 0 0 QQ (F0 mm 4 ls []) := by
    intro n9
    induction n9 with
    | zero => intro i h9; exact absurd h9 (Nat.not_lt_zero _)
    | succ n9 ih_4 =>
      intro i hm_4 hi ls hl
      refine lv_iload_n hx hb dX3_countColours_4 rfl (lv_at hl 2 rfl) ?_
      refine lv_bipush (v := nI 16) hx hb dX3_countColours_5 (by decide) ?_
      refine lv_icmp_ge (tgt := 26) hx hb dX3_countColours_7 (by decide) (fun c_7 => ?_) (fun c_7 => ?_)
      · skip
        have c_7 : 16 ≤ i := (nI_leI (a := 16) (b := i) (by omega) (by omega)).mp c_7
        have e9 : i = 16 := by omega
        refine lv_iload_n hx hb dX3_countColours_26 rfl (lv_at hl 1 rfl) ?_
        refine g_ti (y := nI (metN x 16)) (by rw [e9]) ?_
        refine gc_Si (va_runS (As := [.int (nI (metN x 16))]) (rest := []) ⟨hx, hb, hml, hown, hts⟩ (c_J6_bitCount_0f7a4 l D cy (metN x 16) (metN_lt x 16)) (va_cwS 1 hts gX3_countColours_J6_bitCount_0f7a4 rfl rfl rfl (by decide +kernel) ⟨Nat.le_of_ble_eq_true rfl, Nat.le_of_ble_eq_true rfl⟩) (gpSR hG (hP.sub [] rfl)) rfl rfl hl.1 rfl (lv_room (Nat.le_of_ble_eq_true rfl)) dX3_countColours_27 ⟨Nat.zero_le _, Nat.zero_le _⟩) ?_
        exact hret _ _ _ dX3_countColours_30 rfl
      · skip
        have c_7 : ¬ 16 ≤ i := fun z => c_7 ((nI_leI (a := 16) (b := i) (by omega) (by omega)).mpr z)
        refine lv_iload_n hx hb dX3_countColours_10 rfl (lv_at hl 1 rfl) ?_
        refine lv_iconst (v := nI 1) hx hb dX3_countColours_11 (by decide) ?_
        refine lv_lload_n hx hb dX3_countColours_12 rfl (lv_at hl 0 rfl) ?_
        refine lv_iload_n hx hb dX3_countColours_13 rfl (lv_at hl 2 rfl) ?_
        refine gc_Si (va_runS (As := [.long x, .int (nI i)]) (rest := [.int (nI 1), .int (nI (metN x i))]) ⟨hx, hb, hml, hown, hts⟩ (c_X3_cellAt l D cy x i (by omega)) (va_cwS 2 hts gX3_countColours_X3_cellAt rfl rfl rfl (by decide +kernel) ⟨Nat.le_of_ble_eq_true rfl, Nat.le_of_ble_eq_true rfl⟩) (gpSR hG (hP.sub [] rfl)) rfl rfl hl.1 rfl (lv_room (Nat.le_of_ble_eq_true rfl)) dX3_countColours_14 ⟨Nat.zero_le _, Nat.zero_le _⟩) ?_
        refine lv_ishl hx hb dX3_countColours_17 ?_
        refine g_ti (y := nI (2 ^ cel x i)) (g_shl1 _ (cel_lt x i)) ?_
        refine lv_ior hx hb dX3_countColours_18 ?_
        refine g_ti (y := nI (metN x (i + 1))) (fa_or _ _) ?_
        refine lv_istore_n (lv' := [(2, .int (nI (metN x (i + 1)))), (0, .long x), (3, .int (nI i))]) hx hb dX3_countColours_19 rfl hl (by decide) rfl (fun ls hl => ?_)
        refine lv_iinc (v := nI (i + 1)) (lv' := [(3, .int (nI (i + 1))), (2, .int (nI (metN x (i + 1)))), (0, .long x)]) hx hb dX3_countColours_20 hl (k := 2) rfl (nI_1 _) (by decide) rfl (fun ls hl => ?_)
        refine lv_goto (tgt := 4) hx hb dX3_countColours_23 (by decide) ?_
        exact ih_4 (i + 1) (by omega) (by omega) _ (lv_sub hl [2, 1, 0] rfl)
  exact loop_4 ((16 - 0) + 1) 0 (Nat.lt_succ_self _) (by omega) _ (lv_sub hl [2, 1, 0] rfl)
set_option maxHeartbeats 4000000 in
set_option maxRecDepth 100000 in
theorem c_X3_countRuns (l : Launch) (D : va_G) (cy : Nat → ClassId) (x : Int64)  : Met l yX3_countRuns wsX3_countRuns ({ frames := 1, cells := 0, slots := 0, locals := 22 } : Room) (va_Pc [.long x] (gR D (gT cy) [])) (vp_Si (fun r9 => r9 = nI (nRun x))) 0 0 (fun _ => False) := by
  refine gM_i (cc := cX3_countRuns) (maxL := 4) (ty := .int) (by decide) rfl (Nat.le_of_ble_eq_true rfl) (fun v hv => by rw [hv]; first | rfl | exact gb_nar _) ?_
  intro pp ee ss mm bw mt cd QQ ls hfx hP hG hret hl
  obtain ⟨hx, hb, hml, hown, hts, hlocks⟩ := hfx
  have hown : ss.vm.findClass RX3 = some mm.cls := hown
  have hl : lv_has ls 4 [(0, .long x)] := hl
  refine lv_iconst (v := nI 1) hx hb dX3_countRuns_0 (by decide) ?_
  refine lv_istore_n (lv' := [(2, .int (nI 1)), (0, .long x)]) hx hb dX3_countRuns_1 rfl hl (by decide) rfl (fun ls hl => ?_)
  refine lv_iconst (v := nI 1) hx hb dX3_countRuns_2 (by decide) ?_
  refine lv_istore_n (lv' := [(3, .int (nI 1)), (2, .int (nI 1)), (0, .long x)]) hx hb dX3_countRuns_3 rfl hl (by decide) rfl (fun ls hl => ?_)
  have loop_4 : ∀ (n9 : Nat) (j k : Nat), 15 - j < n9 → (j ≤ 15) → (k = runF x j) → ∀ (ls : Array Slot), lv_has ls 4 [(0, .long x), (2, .int (nI k)), (3, .int (nI (j + 1)))] → W pp l ee ({ frames := 1, cells := 0, slots := 0, locals := 22 } : Room) ss mm ([.long x] : List Value).toArray bw mt cd ss.heap [] 0 0 QQ (F0 mm 4 ls []) := by
    intro n9
    induction n9 with
    | zero => intro j k h9; exact absurd h9 (Nat.not_lt_zero _)
    | succ n9 ih_4 =>
      intro j k hm_4 hi hk ls hl
      refine lv_iload_n hx hb dX3_countRuns_4 rfl (lv_at hl 2 rfl) ?_
      refine lv_bipush (v := nI 16) hx hb dX3_countRuns_5 (by decide) ?_
      refine lv_icmp_ge (tgt := 34) hx hb dX3_countRuns_7 (by decide) (fun c_7 => ?_) (fun c_7 => ?_)
      · skip
        have c_7 : 16 ≤ (j + 1) := (nI_leI (a := 16) (b := (j + 1)) (by omega) (by omega)).mp c_7
        refine lv_iload_n hx hb dX3_countRuns_34 rfl (lv_at hl 1 rfl) ?_
        exact hret _ _ _ dX3_countRuns_35 (by have e9 : j = 15 := (by omega); rw [hk, e9]; rfl)
      · skip
        have c_7 : ¬ 16 ≤ (j + 1) := fun z => c_7 ((nI_leI (a := 16) (b := (j + 1)) (by omega) (by omega)).mpr z)
        refine lv_lload_n hx hb dX3_countRuns_10 rfl (lv_at hl 0 rfl) ?_
        refine lv_iload_n hx hb dX3_countRuns_11 rfl (lv_at hl 2 rfl) ?_
        refine gc_Si (va_runS (As := [.long x, .int (nI (j + 1))]) (rest := []) ⟨hx, hb, hml, hown, hts⟩ (c_X3_cellAt l D cy x (j + 1) (by omega)) (va_cwS 2 hts gX3_countRuns_X3_cellAt rfl rfl rfl (by decide +kernel) ⟨Nat.le_of_ble_eq_true rfl, Nat.le_of_ble_eq_true rfl⟩) (gpSR hG (hP.sub [] rfl)) rfl rfl hl.1 rfl (lv_room (Nat.le_of_ble_eq_true rfl)) dX3_countRuns_12 ⟨Nat.zero_le _, Nat.zero_le _⟩) ?_
        refine lv_lload_n hx hb dX3_countRuns_15 rfl (lv_at hl 0 rfl) ?_
        refine lv_iload_n hx hb dX3_countRuns_16 rfl (lv_at hl 2 rfl) ?_
        refine lv_iconst (v := nI 1) hx hb dX3_countRuns_17 (by decide) ?_
        refine lv_isub hx hb dX3_countRuns_18 ?_
        refine g_ti (y := nI j) (pk_sub (by omega)) ?_
        refine gc_Si (va_runS (As := [.long x, .int (nI j)]) (rest := [.int (nI (cel x (j + 1)))]) ⟨hx, hb, hml, hown, hts⟩ (c_X3_cellAt l D cy x j (by omega)) (va_cwS 2 hts gX3_countRuns_X3_cellAt rfl rfl rfl (by decide +kernel) ⟨Nat.le_of_ble_eq_true rfl, Nat.le_of_ble_eq_true rfl⟩) (gpSR hG (hP.sub [] rfl)) rfl rfl hl.1 rfl (lv_room (Nat.le_of_ble_eq_true rfl)) dX3_countRuns_19 ⟨Nat.zero_le _, Nat.zero_le _⟩) ?_
        refine lv_icmp_eq (tgt := 28) hx hb dX3_countRuns_22 (by decide) (fun c_22 => ?_) (fun c_22 => ?_)
        · skip
          have c_22 : (cel x (j + 1)) = (cel x j) := (nI_eq (a := (cel x (j + 1))) (b := (cel x j)) (Nat.lt_trans (cel_lt _ _) (by decide)) (Nat.lt_trans (cel_lt _ _) (by decide))).mp c_22
          refine lv_iinc (v := nI (j + 1 + 1)) (lv' := [(3, .int (nI (j + 1 + 1))), (0, .long x), (2, .int (nI k))]) hx hb dX3_countRuns_28 hl (k := 2) rfl (nI_1 _) (by decide) rfl (fun ls hl => ?_)
          refine lv_goto (tgt := 4) hx hb dX3_countRuns_31 (by decide) ?_
          exact ih_4 (j + 1) k (by omega) (by omega) (by unfold runF; first | (rw [if_neg c_22, hk]; done) | (rw [if_pos c_22, hk, Nat.add_zero]; done)) _ (lv_sub hl [1, 2, 0] rfl)
        · skip
          have c_22 : ¬ (cel x (j + 1)) = (cel x j) := fun z => c_22 ((nI_eq (a := (cel x (j + 1))) (b := (cel x j)) (Nat.lt_trans (cel_lt _ _) (by decide)) (Nat.lt_trans (cel_lt _ _) (by decide))).mpr z)
          refine lv_iinc (v := nI (k + 1)) (lv' := [(2, .int (nI (k + 1))), (0, .long x), (3, .int (nI (j + 1)))]) hx hb dX3_countRuns_25 hl (k := 1) rfl (nI_1 _) (by decide) rfl (fun ls hl => ?_)
          refine lv_iinc (v := nI (j + 1 + 1)) (lv' := [(3, .int (nI (j + 1 + 1))), (2, .int (nI (k + 1))), (0, .long x)]) hx hb dX3_countRuns_28 hl (k := 2) rfl (nI_1 _) (by decide) rfl (fun ls hl => ?_)
          refine lv_goto (tgt := 4) hx hb dX3_countRuns_31 (by decide) ?_
          exact ih_4 (j + 1) (k + 1) (by omega) (by omega) (by unfold runF; first | (rw [if_neg c_22, hk]; done) | (rw [if_pos c_22, hk, Nat.add_zero]; done)) _ (lv_sub hl [2, 1, 0] rfl)
  exact loop_4 ((15 - 0) + 1) 0 1 (Nat.lt_succ_self _) (by omega) rfl _ (lv_sub hl [2, 1, 0] rfl)
set_option maxHeartbeats 4000000 in
set_option maxRecDepth 100000 in
theorem c_X3_countDifferent (l : Launch) (D : va_G) (cy : Nat → ClassId) (x y : Int64)  : Met l yX3_countDifferent wsX3_countDifferent ({ frames := 1, cells := 0, slots := 0, locals := 22 } : Room) (va_Pc [.long x, .long y] (gR D (gT cy) [])) (vp_Si (fun r9 => r9 = nI (nDif x y))) 0 0 (fun _ => False) := by
  refine gM_i (cc := cX3_countDifferent) (maxL := 6) (ty := .int) (by decide) rfl (Nat.le_of_ble_eq_true rfl) (fun v hv => by rw [hv]; first | rfl | exact gb_nar _) ?_
  intro pp ee ss mm bw mt cd QQ ls hfx hP hG hret hl
  obtain ⟨hx, hb, hml, hown, hts, hlocks⟩ := hfx
  have hown : ss.vm.findClass RX3 = some mm.cls := hown
  have hl : lv_has ls 6 [(0, .long x), (2, .long y)] := hl
  refine lv_iconst (v := nI 0) hx hb dX3_countDifferent_0 (by decide) ?_
  refine lv_istore (lv' := [(4, .int (nI 0)), (0, .long x), (2, .long y)]) hx hb dX3_countDifferent_1 hl (by decide) rfl (fun ls hl => ?_)
  refine lv_iconst (v := nI 0) hx hb dX3_countDifferent_3 (by decide) ?_
  refine lv_istore (lv' := [(5, .int (nI 0)), (4, .int (nI 0)), (0, .long x), (2, .long y)]) hx hb dX3_countDifferent_4 hl (by decide) rfl (fun ls hl => ?_)
  have loop_6 : ∀ (n9 : Nat) (i k : Nat), 16 - i < n9 → (i ≤ 16) → (k = difF x y i) → ∀ (ls : Array Slot), lv_has ls 6 [(0, .long x), (2, .long y), (4, .int (nI k)), (5, .int (nI i))] → W pp l ee ({ frames := 1, cells := 0, slots := 0, locals := 22 } : Room) ss mm ([.long x, .long y] : List Value).toArray bw mt cd ss.heap [] 0 0 QQ (F0 mm 6 ls []) := by
    intro n9
    induction n9 with
    | zero => intro i k h9; exact absurd h9 (Nat.not_lt_zero _)
    | succ n9 ih_6 =>
      intro i k hm_6 hi hk ls hl
      refine lv_iload hx hb dX3_countDifferent_6 (lv_at hl 3 rfl) ?_
      refine lv_bipush (v := nI 16) hx hb dX3_countDifferent_8 (by decide) ?_
      refine lv_icmp_ge (tgt := 37) hx hb dX3_countDifferent_10 (by decide) (fun c_10 => ?_) (fun c_10 => ?_)
      · skip
        have c_10 : 16 ≤ i := (nI_leI (a := 16) (b := i) (by omega) (by omega)).mp c_10
        refine lv_iload hx hb dX3_countDifferent_37 (lv_at hl 2 rfl) ?_
        exact hret _ _ _ dX3_countDifferent_39 (by have e9 : i = 16 := (by omega); rw [hk, e9]; rfl)
      · skip
        have c_10 : ¬ 16 ≤ i := fun z => c_10 ((nI_leI (a := 16) (b := i) (by omega) (by omega)).mpr z)
        refine lv_lload_n hx hb dX3_countDifferent_13 rfl (lv_at hl 0 rfl) ?_
        refine lv_iload hx hb dX3_countDifferent_14 (lv_at hl 3 rfl) ?_
        refine gc_Si (va_runS (As := [.long x, .int (nI i)]) (rest := []) ⟨hx, hb, hml, hown, hts⟩ (c_X3_cellAt l D cy x i (by omega)) (va_cwS 2 hts gX3_countDifferent_X3_cellAt rfl rfl rfl (by decide +kernel) ⟨Nat.le_of_ble_eq_true rfl, Nat.le_of_ble_eq_true rfl⟩) (gpSR hG (hP.sub [] rfl)) rfl rfl hl.1 rfl (lv_room (Nat.le_of_ble_eq_true rfl)) dX3_countDifferent_16 ⟨Nat.zero_le _, Nat.zero_le _⟩) ?_
        refine lv_lload_n hx hb dX3_countDifferent_19 rfl (lv_at hl 1 rfl) ?_
        refine lv_iload hx hb dX3_countDifferent_20 (lv_at hl 3 rfl) ?_
        refine gc_Si (va_runS (As := [.long y, .int (nI i)]) (rest := [.int (nI (cel x i))]) ⟨hx, hb, hml, hown, hts⟩ (c_X3_cellAt l D cy y i (by omega)) (va_cwS 2 hts gX3_countDifferent_X3_cellAt rfl rfl rfl (by decide +kernel) ⟨Nat.le_of_ble_eq_true rfl, Nat.le_of_ble_eq_true rfl⟩) (gpSR hG (hP.sub [] rfl)) rfl rfl hl.1 rfl (lv_room (Nat.le_of_ble_eq_true rfl)) dX3_countDifferent_22 ⟨Nat.zero_le _, Nat.zero_le _⟩) ?_
        refine lv_icmp_eq (tgt := 31) hx hb dX3_countDifferent_25 (by decide) (fun c_25 => ?_) (fun c_25 => ?_)
        · skip
          have c_25 : (cel x i) = (cel y i) := (nI_eq (a := (cel x i)) (b := (cel y i)) (Nat.lt_trans (cel_lt _ _) (by decide)) (Nat.lt_trans (cel_lt _ _) (by decide))).mp c_25
          refine lv_iinc (v := nI (i + 1)) (lv' := [(5, .int (nI (i + 1))), (0, .long x), (2, .long y), (4, .int (nI k))]) hx hb dX3_countDifferent_31 hl (k := 3) rfl (nI_1 _) (by decide) rfl (fun ls hl => ?_)
          refine lv_goto (tgt := 6) hx hb dX3_countDifferent_34 (by decide) ?_
          exact ih_6 (i + 1) k (by omega) (by omega) (by unfold difF; first | (rw [if_neg c_25, hk]; done) | (rw [if_pos c_25, hk, Nat.add_zero]; done)) _ (lv_sub hl [1, 2, 3, 0] rfl)
        · skip
          have c_25 : ¬ (cel x i) = (cel y i) := fun z => c_25 ((nI_eq (a := (cel x i)) (b := (cel y i)) (Nat.lt_trans (cel_lt _ _) (by decide)) (Nat.lt_trans (cel_lt _ _) (by decide))).mpr z)
          refine lv_iinc (v := nI (k + 1)) (lv' := [(4, .int (nI (k + 1))), (0, .long x), (2, .long y), (5, .int (nI i))]) hx hb dX3_countDifferent_28 hl (k := 2) rfl (nI_1 _) (by decide) rfl (fun ls hl => ?_)
          refine lv_iinc (v := nI (i + 1)) (lv' := [(5, .int (nI (i + 1))), (4, .int (nI (k + 1))), (0, .long x), (2, .long y)]) hx hb dX3_countDifferent_31 hl (k := 3) rfl (nI_1 _) (by decide) rfl (fun ls hl => ?_)
          refine lv_goto (tgt := 6) hx hb dX3_countDifferent_34 (by decide) ?_
          exact ih_6 (i + 1) (k + 1) (by omega) (by omega) (by unfold difF; first | (rw [if_neg c_25, hk]; done) | (rw [if_pos c_25, hk, Nat.add_zero]; done)) _ (lv_sub hl [2, 3, 1, 0] rfl)
  exact loop_6 ((16 - 0) + 1) 0 0 (Nat.lt_succ_self _) (by omega) rfl _ (lv_sub hl [2, 3, 1, 0] rfl)
set_option maxHeartbeats 4000000 in
set_option maxRecDepth 100000 in
theorem c_X3_unitsByColours (l : Launch) (D : va_G) (cy : Nat → ClassId) (n : Nat) (hn : n ≤ 16) : Met l yX3_unitsByColours wsX3_unitsByColours ({ frames := 0, cells := 0, slots := 0, locals := 0 } : Room) (va_Pc [.int (nI n)] (gR D (gT cy) [])) (vp_Si (fun r9 => r9 = nI (ubc n))) 0 0 (fun _ => False) := by
  refine gM_i (cc := cX3_unitsByColours) (maxL := 1) (ty := .int) (by decide) rfl (Nat.le_of_ble_eq_true rfl) (fun v hv => by rw [hv]; first | rfl | exact gb_nar _) ?_
  intro pp ee ss mm bw mt cd QQ ls hfx hP hG hret hl
  obtain ⟨hx, hb, hml, hown, hts, hlocks⟩ := hfx
  have hown : ss.vm.findClass RX3 = some mm.cls := hown
  have hl : lv_has ls 1 [(0, .int (nI n))] := hl
  have en := nI_toInt (n := n) (by omega)
  refine lv_iload_n hx hb dX3_unitsByColours_0 rfl (lv_at hl 0 rfl) ?_
  rcases (show (nI n).toInt = 2 ∨ (nI n).toInt = 3 ∨ (nI n).toInt = 4 ∨ ((nI n).toInt < 2 ∨ 4 < (nI n).toInt) from by omega) with h_1 | h_1 | h_1 | h_1
  · skip
    refine lv_tableIn (tgt := 28) (off := 27) hx hb dX3_unitsByColours_1 (by rw [h_1]; decide) (by rw [h_1]; decide) (by rw [h_1]; rfl) (by decide) ?_
    refine lv_bipush (v := nI 10) hx hb dX3_unitsByColours_28 (by decide) ?_
    exact hret _ _ _ dX3_unitsByColours_30 (by refine lt_ret ?_; unfold ubc; (repeat' split) <;> omega)
  · skip
    refine lv_tableIn (tgt := 31) (off := 30) hx hb dX3_unitsByColours_1 (by rw [h_1]; decide) (by rw [h_1]; decide) (by rw [h_1]; rfl) (by decide) ?_
    refine lv_bipush (v := nI 15) hx hb dX3_unitsByColours_31 (by decide) ?_
    exact hret _ _ _ dX3_unitsByColours_33 (by refine lt_ret ?_; unfold ubc; (repeat' split) <;> omega)
  · skip
    refine lv_tableIn (tgt := 34) (off := 33) hx hb dX3_unitsByColours_1 (by rw [h_1]; decide) (by rw [h_1]; decide) (by rw [h_1]; rfl) (by decide) ?_
    refine lv_bipush (v := nI 16) hx hb dX3_unitsByColours_34 (by decide) ?_
    exact hret _ _ _ dX3_unitsByColours_36 (by refine lt_ret ?_; unfold ubc; (repeat' split) <;> omega)
  · skip
    refine lv_tableOut (tgt := 37) hx hb dX3_unitsByColours_1 (h_1) (by decide) ?_
    refine lv_bipush (v := nI 99) hx hb dX3_unitsByColours_37 (by decide) ?_
    exact hret _ _ _ dX3_unitsByColours_39 (by refine lt_ret ?_; unfold ubc; (repeat' split) <;> omega)
set_option maxHeartbeats 4000000 in
set_option maxRecDepth 100000 in
theorem c_X3_unitsIn (l : Launch) (D : va_G) (cy : Nat → ClassId) (k : Nat) (x : Int64) (h t : Nat) (L : List Int64) (f : Nat → Int64) (hk : k ≤ 4) (hf : hC L f) (hL : L.length ≤ 6) : Met l yX3_unitsIn wsX3_unitsIn ({ frames := 2, cells := 0, slots := 0, locals := 45 } : Room) (va_Pc [.int (nI k), .long x, .ref h] (gR D (gT cy) [(h, eCch t (nI L.length)), (t, eJ cy 6 f)])) (vp_Si (fun r9 => r9 = nI (unW L x k))) 0 0 (fun _ => False) := by
  refine gM_i (cc := cX3_unitsIn) (maxL := 4) (ty := .int) (by decide) rfl (Nat.le_of_ble_eq_true rfl) (fun v hv => by rw [hv]; first | rfl | exact gb_nar _) ?_
  intro pp ee ss mm bw mt cd QQ ls hfx hP hG hret hl
  obtain ⟨hx, hb, hml, hown, hts, hlocks⟩ := hfx
  have hown : ss.vm.findClass RX3 = some mm.cls := hown
  have hl : lv_has ls 4 [(0, .int (nI k)), (1, .long x), (3, .ref h)] := hl
  have en := nI_toInt (n := k) (by omega)
  have z1 := nRun_le x
  have z2 := nCol_le x
  refine lv_iload_n hx hb dX3_unitsIn_0 rfl (lv_at hl 0 rfl) ?_
  rcases (show (nI k).toInt = 0 ∨ (nI k).toInt = 1 ∨ (nI k).toInt = 2 ∨ (nI k).toInt = 3 ∨ ((nI k).toInt < 0 ∨ 3 < (nI k).toInt) from by omega) with h_1 | h_1 | h_1 | h_1 | h_1
  · skip
    refine lv_tableIn (tgt := 32) (off := 31) hx hb dX3_unitsIn_1 (by rw [h_1]; decide) (by rw [h_1]; decide) (by rw [h_1]; rfl) (by decide) ?_
    have e9 : k = 0 := by omega
    subst e9
    refine lv_aload_n hx hb dX3_unitsIn_32 rfl (lv_at hl 2 rfl) ?_
    refine lv_lload_n hx hb dX3_unitsIn_33 rfl (lv_at hl 1 rfl) ?_
    refine gc_Si (va_runV (As := [.long x]) (rest := []) ⟨hx, hb, hml, hown, hts⟩ (c_X0_holds l D cy h t L f x hf hL) (cwV 1 hts gX3_unitsIn_X0_holds rfl rfl rfl (by decide +kernel) ⟨Nat.le_of_ble_eq_true rfl, Nat.le_of_ble_eq_true rfl⟩) (gpVR (ci := 0) (q0 := 0) hG (hP.sub [0, 1] rfl) rfl rfl) rfl rfl hl.1 rfl (lv_room (Nat.le_of_ble_eq_true rfl)) dX3_unitsIn_34 ⟨Nat.zero_le _, Nat.zero_le _⟩) ?_
    refine lv_if_eq (tgt := 44) hx hb dX3_unitsIn_37 (by decide) (fun c_37 => ?_) (fun c_37 => ?_)
    · skip
      have c_37 : ¬ (ixF L x < L.length) := gb_eq0.mp c_37
      refine lv_bipush (v := nI 99) hx hb dX3_unitsIn_44 (by decide) ?_
      exact hret _ _ _ dX3_unitsIn_46 (by first | (exact lt_ret (if_pos c_37).symm) | (exact lt_ret (if_neg c_37).symm))
    · skip
      have c_37 : ixF L x < L.length := gb_ne0.mp c_37
      refine lv_iconst (v := nI 2) hx hb dX3_unitsIn_40 (by decide) ?_
      refine lv_goto (tgt := 46) hx hb dX3_unitsIn_41 (by decide) ?_
      exact hret _ _ _ dX3_unitsIn_46 (by first | (exact lt_ret (if_pos c_37).symm) | (exact lt_ret (if_neg c_37).symm))
  · skip
    refine lv_tableIn (tgt := 47) (off := 46) hx hb dX3_unitsIn_1 (by rw [h_1]; decide) (by rw [h_1]; decide) (by rw [h_1]; rfl) (by decide) ?_
    have e9 : k = 1 := by omega
    subst e9
    refine lv_lload_n hx hb dX3_unitsIn_47 rfl (lv_at hl 1 rfl) ?_
    refine gc_Si (va_runS (As := [.long x]) (rest := []) ⟨hx, hb, hml, hown, hts⟩ (c_X3_countColours l D cy x) (va_cwS 1 hts gX3_unitsIn_X3_countColours rfl rfl rfl (by decide +kernel) ⟨Nat.le_of_ble_eq_true rfl, Nat.le_of_ble_eq_true rfl⟩) (gpSR hG (hP.sub [] rfl)) rfl rfl hl.1 rfl (lv_room (Nat.le_of_ble_eq_true rfl)) dX3_unitsIn_48 ⟨Nat.zero_le _, Nat.zero_le _⟩) ?_
    refine lv_iconst (v := nI 1) hx hb dX3_unitsIn_51 (by decide) ?_
    refine lv_icmp_ne (tgt := 59) hx hb dX3_unitsIn_52 (by decide) (fun c_52 => ?_) (fun c_52 => ?_)
    · skip
      have c_52 : ¬ (nCol x) = 1 := fun z => c_52 ((nI_eq (a := (nCol x)) (b := 1) (by omega) (by omega)).mpr z)
      refine lv_bipush (v := nI 99) hx hb dX3_unitsIn_59 (by decide) ?_
      exact hret _ _ _ dX3_unitsIn_61 (by first | (exact lt_ret (if_pos c_52).symm) | (exact lt_ret (if_neg c_52).symm))
    · skip
      have c_52 : (nCol x) = 1 := (nI_eq (a := (nCol x)) (b := 1) (by omega) (by omega)).mp c_52
      refine lv_iconst (v := nI 3) hx hb dX3_unitsIn_55 (by decide) ?_
      refine lv_goto (tgt := 61) hx hb dX3_unitsIn_56 (by decide) ?_
      exact hret _ _ _ dX3_unitsIn_61 (by first | (exact lt_ret (if_pos c_52).symm) | (exact lt_ret (if_neg c_52).symm))
  · skip
    refine lv_tableIn (tgt := 62) (off := 61) hx hb dX3_unitsIn_1 (by rw [h_1]; decide) (by rw [h_1]; decide) (by rw [h_1]; rfl) (by decide) ?_
    have e9 : k = 2 := by omega
    subst e9
    refine lv_lload_n hx hb dX3_unitsIn_62 rfl (lv_at hl 1 rfl) ?_
    refine gc_Si (va_runS (As := [.long x]) (rest := []) ⟨hx, hb, hml, hown, hts⟩ (c_X3_countColours l D cy x) (va_cwS 1 hts gX3_unitsIn_X3_countColours rfl rfl rfl (by decide +kernel) ⟨Nat.le_of_ble_eq_true rfl, Nat.le_of_ble_eq_true rfl⟩) (gpSR hG (hP.sub [] rfl)) rfl rfl hl.1 rfl (lv_room (Nat.le_of_ble_eq_true rfl)) dX3_unitsIn_63 ⟨Nat.zero_le _, Nat.zero_le _⟩) ?_
    refine gc_Si (va_runS (As := [.int (nI (nCol x))]) (rest := []) ⟨hx, hb, hml, hown, hts⟩ (c_X3_unitsByColours l D cy (nCol x) z2) (va_cwS 1 hts gX3_unitsIn_X3_unitsByColours rfl rfl rfl (by decide +kernel) ⟨Nat.le_of_ble_eq_true rfl, Nat.le_of_ble_eq_true rfl⟩) (gpSR hG (hP.sub [] rfl)) rfl rfl hl.1 rfl (lv_room (Nat.le_of_ble_eq_true rfl)) dX3_unitsIn_66 ⟨Nat.zero_le _, Nat.zero_le _⟩) ?_
    exact hret _ _ _ dX3_unitsIn_69 rfl
  · skip
    refine lv_tableIn (tgt := 70) (off := 69) hx hb dX3_unitsIn_1 (by rw [h_1]; decide) (by rw [h_1]; decide) (by rw [h_1]; rfl) (by decide) ?_
    have e9 : k = 3 := by omega
    subst e9
    refine lv_iconst (v := nI 1) hx hb dX3_unitsIn_70 (by decide) ?_
    refine lv_iconst (v := nI 2) hx hb dX3_unitsIn_71 (by decide) ?_
    refine lv_lload_n hx hb dX3_unitsIn_72 rfl (lv_at hl 1 rfl) ?_
    refine gc_Si (va_runS (As := [.long x]) (rest := [.int (nI 2), .int (nI 1)]) ⟨hx, hb, hml, hown, hts⟩ (c_X3_countRuns l D cy x) (va_cwS 1 hts gX3_unitsIn_X3_countRuns rfl rfl rfl (by decide +kernel) ⟨Nat.le_of_ble_eq_true rfl, Nat.le_of_ble_eq_true rfl⟩) (gpSR hG (hP.sub [] rfl)) rfl rfl hl.1 rfl (lv_room (Nat.le_of_ble_eq_true rfl)) dX3_unitsIn_73 ⟨Nat.zero_le _, Nat.zero_le _⟩) ?_
    refine lv_imul hx hb dX3_unitsIn_76 ?_
    refine g_ti (y := nI (2 * (nRun x))) (pk_mul _ _) ?_
    refine lv_iadd hx hb dX3_unitsIn_77 ?_
    refine g_ti (y := nI (1 + (2 * (nRun x)))) (nI_add _ _) ?_
    exact hret _ _ _ dX3_unitsIn_78 rfl
  · skip
    refine lv_tableOut (tgt := 79) hx hb dX3_unitsIn_1 (h_1) (by decide) ?_
    have e9 : k = 4 := by omega
    subst e9
    refine lv_bipush (v := nI 17) hx hb dX3_unitsIn_79 (by decide) ?_
    exact hret _ _ _ dX3_unitsIn_81 rfl
set_option maxHeartbeats 4000000 in
set_option maxRecDepth 100000 in
theorem c_X3_cheapestWriting (l : Launch) (D : va_G) (cy : Nat → ClassId) (x : Int64) (h t : Nat) (L : List Int64) (f : Nat → Int64) (hf : hC L f) (hL : L.length ≤ 6) : Met l yX3_cheapestWriting wsX3_cheapestWriting ({ frames := 3, cells := 0, slots := 0, locals := 68 } : Room) (va_Pc [.long x, .ref h] (gR D (gT cy) [(h, eCch t (nI L.length)), (t, eJ cy 6 f)])) (vp_Si (fun r9 => r9 = nI (wayO L x))) 0 0 (fun _ => False) := by
  refine gM_i (cc := cX3_cheapestWriting) (maxL := 7) (ty := .int) (by decide) rfl (Nat.le_of_ble_eq_true rfl) (fun v hv => by rw [hv]; first | rfl | exact gb_nar _) ?_
  intro pp ee ss mm bw mt cd QQ ls hfx hP hG hret hl
  obtain ⟨hx, hb, hml, hown, hts, hlocks⟩ := hfx
  have hown : ss.vm.findClass RX3 = some mm.cls := hown
  have hl : lv_has ls 7 [(0, .long x), (2, .ref h)] := hl
  refine lv_iconst (v := nI 0) hx hb dX3_cheapestWriting_0 (by decide) ?_
  refine lv_istore_n (lv' := [(3, .int (nI 0)), (0, .long x), (2, .ref h)]) hx hb dX3_cheapestWriting_1 rfl hl (by decide) rfl (fun ls hl => ?_)
  refine lv_bipush (v := nI 99) hx hb dX3_cheapestWriting_2 (by decide) ?_
  refine lv_istore (lv' := [(4, .int (nI 99)), (3, .int (nI 0)), (0, .long x), (2, .ref h)]) hx hb dX3_cheapestWriting_4 hl (by decide) rfl (fun ls hl => ?_)
  refine lv_iconst (v := nI 0) hx hb dX3_cheapestWriting_6 (by decide) ?_
  refine lv_istore (lv' := [(5, .int (nI 0)), (4, .int (nI 99)), (3, .int (nI 0)), (0, .long x), (2, .ref h)]) hx hb dX3_cheapestWriting_7 hl (by decide) rfl (fun ls hl => ?_)
  have loop_9 : ∀ (n9 : Nat) (i w b : Nat), 5 - i < n9 → (i ≤ 5) → ((w, b) = cwF (unW L x) i) → ∀ (ls : Array Slot), lv_has ls 7 [(0, .long x), (2, .ref h), (3, .int (nI w)), (4, .int (nI b)), (5, .int (nI i))] → W pp l ee ({ frames := 3, cells := 0, slots := 0, locals := 68 } : Room) ss mm ([.long x, .ref h] : List Value).toArray bw mt cd ss.heap [] 0 0 QQ (F0 mm 9 ls []) := by
    intro n9
    induction n9 with
    | zero => intro i w b h9; exact absurd h9 (Nat.not_lt_zero _)
    | succ n9 ih_9 =>
      intro i w b hm_9 hi hb9 ls hl
      have z1 := cwF_le (unW L x) i
      rw [← hb9] at z1
      have z2 : w ≤ i ∧ b ≤ 99 := z1
      have z3 := unW_le L x i
      refine lv_iload hx hb dX3_cheapestWriting_9 (lv_at hl 4 rfl) ?_
      refine lv_iconst (v := nI 5) hx hb dX3_cheapestWriting_11 (by decide) ?_
      refine lv_icmp_ge (tgt := 44) hx hb dX3_cheapestWriting_12 (by decide) (fun c_12 => ?_) (fun c_12 => ?_)
      · skip
        have c_12 : 5 ≤ i := (nI_leI (a := 5) (b := i) (by omega) (by omega)).mp c_12
        refine lv_bipush (v := nI 100) hx hb dX3_cheapestWriting_44 (by decide) ?_
        refine lv_iload_n hx hb dX3_cheapestWriting_46 rfl (lv_at hl 2 rfl) ?_
        refine lv_imul hx hb dX3_cheapestWriting_47 ?_
        refine g_ti (y := nI (100 * w)) (pk_mul _ _) ?_
        refine lv_iload hx hb dX3_cheapestWriting_48 (lv_at hl 3 rfl) ?_
        refine lv_iadd hx hb dX3_cheapestWriting_50 ?_
        refine g_ti (y := nI ((100 * w) + b)) (nI_add _ _) ?_
        exact hret _ _ _ dX3_cheapestWriting_51 (by have e9 : i = 5 := (by omega); unfold wayO; rw [e9] at hb9; rw [← hb9])
      · skip
        have c_12 : ¬ 5 ≤ i := fun z => c_12 ((nI_leI (a := 5) (b := i) (by omega) (by omega)).mpr z)
        refine lv_iload hx hb dX3_cheapestWriting_15 (lv_at hl 4 rfl) ?_
        refine lv_lload_n hx hb dX3_cheapestWriting_17 rfl (lv_at hl 0 rfl) ?_
        refine lv_aload_n hx hb dX3_cheapestWriting_18 rfl (lv_at hl 1 rfl) ?_
        refine gc_Si (va_runS (As := [.int (nI i), .long x, .ref h]) (rest := []) ⟨hx, hb, hml, hown, hts⟩ (c_X3_unitsIn l D cy i x h t L f (by omega) hf hL) (va_cwS 3 hts gX3_cheapestWriting_X3_unitsIn rfl rfl rfl (by decide +kernel) ⟨Nat.le_of_ble_eq_true rfl, Nat.le_of_ble_eq_true rfl⟩) (gpSR hG (hP.sub [0, 1] rfl)) rfl rfl hl.1 rfl (lv_room (Nat.le_of_ble_eq_true rfl)) dX3_cheapestWriting_19 ⟨Nat.zero_le _, Nat.zero_le _⟩) ?_
        refine lv_istore (lv' := [(6, .int (nI (unW L x i))), (0, .long x), (2, .ref h), (3, .int (nI w)), (4, .int (nI b)), (5, .int (nI i))]) hx hb dX3_cheapestWriting_22 hl (by decide) rfl (fun ls hl => ?_)
        refine lv_iload hx hb dX3_cheapestWriting_24 (lv_at hl 0 rfl) ?_
        refine lv_iload hx hb dX3_cheapestWriting_26 (lv_at hl 4 rfl) ?_
        refine lv_icmp_ge (tgt := 38) hx hb dX3_cheapestWriting_28 (by decide) (fun c_28 => ?_) (fun c_28 => ?_)
        · skip
          have c_28 : b ≤ (unW L x i) := (nI_leI (a := b) (b := (unW L x i)) (by omega) (by omega)).mp c_28
          refine lv_iinc (v := nI (i + 1)) (lv' := [(5, .int (nI (i + 1))), (6, .int (nI (unW L x i))), (0, .long x), (2, .ref h), (3, .int (nI w)), (4, .int (nI b))]) hx hb dX3_cheapestWriting_38 hl (k := 5) rfl (nI_1 _) (by decide) rfl (fun ls hl => ?_)
          refine lv_goto (tgt := 9) hx hb dX3_cheapestWriting_41 (by decide) ?_
          exact ih_9 (i + 1) w b (by omega) (by omega) (by first | exact cwF_t hb9 (by omega) | exact cwF_f hb9 (by omega)) _ (lv_sub hl [2, 3, 4, 5, 0] rfl)
        · skip
          have c_28 : ¬ b ≤ (unW L x i) := fun z => c_28 ((nI_leI (a := b) (b := (unW L x i)) (by omega) (by omega)).mpr z)
          refine lv_iload hx hb dX3_cheapestWriting_31 (lv_at hl 5 rfl) ?_
          refine lv_istore_n (lv' := [(3, .int (nI i)), (6, .int (nI (unW L x i))), (0, .long x), (2, .ref h), (4, .int (nI b)), (5, .int (nI i))]) hx hb dX3_cheapestWriting_33 rfl hl (by decide) rfl (fun ls hl => ?_)
          refine lv_iload hx hb dX3_cheapestWriting_34 (lv_at hl 1 rfl) ?_
          refine lv_istore (lv' := [(4, .int (nI (unW L x i))), (3, .int (nI i)), (6, .int (nI (unW L x i))), (0, .long x), (2, .ref h), (5, .int (nI i))]) hx hb dX3_cheapestWriting_36 hl (by decide) rfl (fun ls hl => ?_)
          refine lv_iinc (v := nI (i + 1)) (lv' := [(5, .int (nI (i + 1))), (4, .int (nI (unW L x i))), (3, .int (nI i)), (6, .int (nI (unW L x i))), (0, .long x), (2, .ref h)]) hx hb dX3_cheapestWriting_38 hl (k := 5) rfl (nI_1 _) (by decide) rfl (fun ls hl => ?_)
          refine lv_goto (tgt := 9) hx hb dX3_cheapestWriting_41 (by decide) ?_
          exact ih_9 (i + 1) i (unW L x i) (by omega) (by omega) (by first | exact cwF_t hb9 (by omega) | exact cwF_f hb9 (by omega)) _ (lv_sub hl [4, 5, 2, 1, 0] rfl)
  exact loop_9 ((5 - 0) + 1) 0 0 99 (Nat.lt_succ_self _) (by omega) rfl _ (lv_sub hl [3, 4, 2, 1, 0] rfl)
