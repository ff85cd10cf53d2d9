/-! the class: what a drawing makes dirty -/
/-! what a drawing makes dirty -/
noncomputable def soilJ (J : Prop) (L : List Nat) (t : Nat) : List Nat := @ite _ J (Classical.propDecidable J) (soil L t) L
theorem soilJ_t {J : Prop} {L : List Nat} {t : Nat} (h : J) : soil L t = soilJ J L t := by unfold soilJ; rw [if_pos h]
theorem soilJ_f {J : Prop} {L : List Nat} {t : Nat} (h : ¬ J) : L = soilJ J L t := by unfold soilJ; rw [if_neg h]
theorem soilJ_ok {J : Prop} {L : List Nat} {t : Nat} (h : okD L) (ht : t < 12) : okD (soilJ J L t) := by
  by_cases hJ : J
  · rw [← soilJ_t hJ]; exact soil_ok h ht
  · rw [← soilJ_f hJ]; exact h
noncomputable def stlF (J : Prop) (b s : Nat → Int64) (L : List Nat) : Nat → List Nat
  | 0 => L
  | i + 1 => if 0 < nDif (b i) (s i) then soilJ J (stlF J b s L i) i else stlF J b s L i
theorem stlF_t {J : Prop} {b s : Nat → Int64} {L P : List Nat} {i : Nat} (h : P = stlF J b s L i) (c : 0 < nDif (b i) (s i)) : soilJ J P i = stlF J b s L (i + 1) := by
  show _ = if 0 < nDif (b i) (s i) then soilJ J (stlF J b s L i) i else stlF J b s L i
  rw [if_pos c, h]
theorem stlF_f {J : Prop} {b s : Nat → Int64} {L P : List Nat} {i : Nat} (h : P = stlF J b s L i) (c : ¬ 0 < nDif (b i) (s i)) : P = stlF J b s L (i + 1) := by
  show _ = if 0 < nDif (b i) (s i) then soilJ J (stlF J b s L i) i else stlF J b s L i
  rw [if_neg c, h]
theorem stlF_ok {J : Prop} {b s : Nat → Int64} {L : List Nat} (h : okD L) : ∀ i, i ≤ 12 → okD (stlF J b s L i)
  | 0, _ => h
  | i + 1, hi => by
    have := stlF_ok (J := J) (b := b) (s := s) h i (by omega)
    show okD (if 0 < nDif (b i) (s i) then soilJ J (stlF J b s L i) i else stlF J b s L i)
    split
    · exact soilJ_ok this (by omega)
    · exact this
def sumD (b s : Nat → Int64) : Nat → Nat
  | 0 => 0
  | i + 1 => sumD b s i + nDif (b i) (s i)
theorem sumD_le (b s : Nat → Int64) : ∀ i, sumD b s i ≤ 16 * i
  | 0 => Nat.le_refl _
  | i + 1 => by have h1 := sumD_le b s i; have h2 := nDif_le (b i) (s i); show sumD b s i + nDif (b i) (s i) ≤ _; omega
theorem cwF_4 (u : Nat → Nat) : (cwF u 5).1 ≤ 4 := by
  have h := (cwF_le u 4).1
  show (if u 4 < (cwF u 4).2 then (4, u 4) else cwF u 4).1 ≤ 4
  split
  · exact Nat.le_refl _
  · exact h
theorem wayO_le (L : List Int64) (x : Int64) : wayO L x ≤ 499 := by
  have h1 := cwF_4 (unW L x)
  have h2 := (cwF_le (unW L x) 5).2
  unfold wayO
  omega
/-- a message is written: what is still dirty, the message, the cache, the units left, how many in each way -/
def askF (s : Nat → Int64) : List Nat → List (Nat × Int64) → List Int64 → Nat → (Nat → Int32) → List Nat × List (Nat × Int64) × List Int64 × Nat × (Nat → Int32)
  | [], M, C, b, w => ([], M, C, b, w)
  | t :: r, M, C, b, w => if wayO C (s t) % 100 ≤ b then askF s r (M ++ [(t, s t)]) (brg C (s t)) (b - wayO C (s t) % 100) (upd w (wayO C (s t) / 100) (w (wayO C (s t) / 100) + nI 1)) else (t :: r, M, C, b, w)
theorem drop_get {L : List Nat} {i : Nat} (h : i < L.length) : L.drop i = L.getD i 0 :: L.drop (i + 1) := by
  rw [List.drop_eq_getElem_cons h, List.getD_eq_getElem?_getD, List.getElem?_eq_getElem h]; rfl
theorem drop_getD (L : List Nat) (i j : Nat) : (L.drop i).getD j 0 = L.getD (j + i) 0 := by
  rw [List.getD_eq_getElem?_getD, List.getD_eq_getElem?_getD, List.getElem?_drop, Nat.add_comm]
theorem okD_drop {L : List Nat} (h : okD L) (i : Nat) : okD (L.drop i) := ⟨h.1.sublist (List.drop_sublist i L), fun d hd => h.2 d (List.mem_of_mem_drop hd)⟩
theorem askF_t {s : Nat → Int64} {L : List Nat} {i b : Nat} {M : List (Nat × Int64)} {C : List Int64} {w : Nat → Int32} (hi : i < L.length) (h : wayO C (s (L.getD i 0)) % 100 ≤ b) :
    askF s (L.drop i) M C b w = askF s (L.drop (i + 1)) (M ++ [(L.getD i 0, s (L.getD i 0))]) (brg C (s (L.getD i 0))) (b - wayO C (s (L.getD i 0)) % 100) (upd w (wayO C (s (L.getD i 0)) / 100) (w (wayO C (s (L.getD i 0)) / 100) + nI 1)) := by
  rw [drop_get hi]
  show (if _ then _ else _) = _
  rw [if_pos h]
theorem askF_f {s : Nat → Int64} {L : List Nat} {i b : Nat} {M : List (Nat × Int64)} {C : List Int64} {w : Nat → Int32} (hi : i < L.length) (h : ¬ wayO C (s (L.getD i 0)) % 100 ≤ b) :
    askF s (L.drop i) M C b w = (L.drop i, M, C, b, w) := by
  rw [drop_get hi]
  show (if _ then _ else _) = _
  rw [if_neg h]
theorem askF_e {s : Nat → Int64} {L : List Nat} {i b : Nat} {M : List (Nat × Int64)} {C : List Int64} {w : Nat → Int32} (hi : L.length ≤ i) :
    askF s (L.drop i) M C b w = (L.drop i, M, C, b, w) := by
  rw [List.drop_eq_nil_of_le hi]; rfl
theorem iX3_makeDirtyForAll_X3 : ∀ w ∈ wsX30, w ∈ wsX3_makeDirtyForAll := by decide +kernel
set_option maxHeartbeats 4000000 in
set_option maxRecDepth 100000 in
theorem c_X3_makeDirtyForAll (l : Launch) (D : va_G) (cy : Nat → ClassId) (sz : Nat) (a q r : Nat → Nat) (uw : Int32) (g : Nat → Option Nat) (J J9 : Prop) (k k9 : Int32) (L K : List Nat) (f h : Nat → Int32) (t : Nat) (hg0 : g 0 = some (q 0)) (hg1 : g 1 = some (r 0)) (hL : hN L f) (ho : okD L) (hK : hN K h) (hk9 : okD K) (ht : t < 12) : Met l yX3_makeDirtyForAll wsX3_makeDirtyForAll ({ frames := 1, cells := 0, slots := 0, locals := 22 } : Room) (va_Pc [.ref (a 0), .int (nI t)] (gI D (gT cy) [(a 0, eTop (a 1) (a 3) (a 5) (a 6) uw), (a 5, eQ cy 2 g), (q 0, eCli (gb (J)) (q 1) (q 3) (q 5) (q 7) (nI L.length) (q 8) (q 9) k), (q 7, eI cy 12 f), (r 0, eCli (gb (J9)) (r 1) (r 3) (r 5) (r 7) (nI K.length) (r 8) (r 9) k9), (r 7, eI cy 12 h)] sz)) (va_Qv (fun u : (List Nat) × (List Nat) × (Nat → Int32) × (Nat → Int32) => u.1 = soilJ J L t ∧ u.2.1 = soilJ J9 K t ∧ (hN (soilJ J L t) u.2.2.1 ∧ hN (soilJ J9 K t) u.2.2.2)) (gO D (fun u : (List Nat) × (List Nat) × (Nat → Int32) × (Nat → Int32) => [(a 0, eTop (a 1) (a 3) (a 5) (a 6) uw), (a 5, eQ cy 2 g), (q 0, eCli (gb (J)) (q 1) (q 3) (q 5) (q 7) (nI u.1.length) (q 8) (q 9) k), (q 7, eI cy 12 u.2.2.1), (r 0, eCli (gb (J9)) (r 1) (r 3) (r 5) (r 7) (nI u.2.1.length) (r 8) (r 9) k9), (r 7, eI cy 12 u.2.2.2)]) (va_A [(a 0, eTop (a 1) (a 3) (a 5) (a 6) uw), (a 5, eQ cy 2 g), (q 0, eCli (gb (J)) (q 1) (q 3) (q 5) (q 7) (nI L.length) (q 8) (q 9) k), (q 7, eI cy 12 f), (r 0, eCli (gb (J9)) (r 1) (r 3) (r 5) (r 7) (nI K.length) (r 8) (r 9) k9), (r 7, eI cy 12 h)] sz)) (va_A [(a 0, eTop (a 1) (a 3) (a 5) (a 6) uw), (a 5, eQ cy 2 g), (q 0, eCli (gb (J)) (q 1) (q 3) (q 5) (q 7) (nI L.length) (q 8) (q 9) k), (q 7, eI cy 12 f), (r 0, eCli (gb (J9)) (r 1) (r 3) (r 5) (r 7) (nI K.length) (r 8) (r 9) k9), (r 7, eI cy 12 h)] sz)) 0 0 (va_A [(a 0, eTop (a 1) (a 3) (a 5) (a 6) uw), (a 5, eQ cy 2 g), (q 0, eCli (gb (J)) (q 1) (q 3) (q 5) (q 7) (nI L.length) (q 8) (q 9) k), (q 7, eI cy 12 f), (r 0, eCli (gb (J9)) (r 1) (r 3) (r 5) (r 7) (nI K.length) (r 8) (r 9) k9), (r 7, eI cy 12 h)] sz) := by
  refine gW_v (cc := cX3_makeDirtyForAll) (maxL := 3) (by decide) rfl (Nat.le_of_ble_eq_true rfl) ?_
  intro pp ee ss mm bw mt cd QQ AA ls hfx hP hG hD hA hret hl
  have hS : va_S AA ss.heap ss.heap [] := va_S.rf
  obtain ⟨H, eH⟩ : ∃ H, H = ss.heap := ⟨_, rfl⟩
  obtain ⟨locs, eL⟩ : ∃ L : List Loc, L = [] := ⟨_, rfl⟩
  have hP : va_P D vwCl [(a 0, eTop (a 1) (a 3) (a 5) (a 6) uw), (a 5, eQ cy 2 g), (q 0, eCli (gb (J)) (q 1) (q 3) (q 5) (q 7) (nI L.length) (q 8) (q 9) k), (q 7, eI cy 12 f), (r 0, eCli (gb (J9)) (r 1) (r 3) (r 5) (r 7) (nI K.length) (r 8) (r 9) k9), (r 7, eI cy 12 h)] H := by rw [eH]; exact hP
  have hS : va_S AA ss.heap H locs := by rw [eH, eL]; exact hS
  have goal : ∀ X Y, X = H → Y = locs → W pp l ee ({ frames := 1, cells := 0, slots := 0, locals := 22 } : Room) ss mm ([.ref (a 0), .int (nI t)] : List Value).toArray bw mt cd X Y 0 0 QQ (F0 mm 0 ls []) → W pp l ee ({ frames := 1, cells := 0, slots := 0, locals := 22 } : Room) ss mm ([.ref (a 0), .int (nI t)] : List Value).toArray bw mt cd ss.heap [] 0 0 QQ (F0 mm 0 ls []) := fun X Y hX hY h => by rw [hX, hY, eH, eL] at h; exact h
  refine goal H locs rfl rfl ?_
  clear goal eH eL
  obtain ⟨hx, hb, hml, hown, hts, hlocks⟩ := hfx
  have hown : ss.vm.findClass RX3 = some mm.cls := hown
  have hl : lv_has ls 3 [(0, .ref (a 0)), (1, .int (nI t))] := hl
  refine lv_iconst (v := nI 0) hx hb dX3_makeDirtyForAll_0 (by decide) ?_
  refine lv_istore_n (lv' := [(2, .int (nI 0)), (0, .ref (a 0)), (1, .int (nI t))]) hx hb dX3_makeDirtyForAll_1 rfl hl (by decide) rfl (fun ls hl => ?_)
  refine lv_iload_n hx hb dX3_makeDirtyForAll_2 rfl (lv_at hl 0 rfl) ?_
  refine lv_aload_n hx hb dX3_makeDirtyForAll_3 rfl (lv_at hl 1 rfl) ?_
  refine va_get (D := D) (ci := 3) (v := .ref (a 5)) (C := RX3) (T := TX3) (N := 5) hx hb hts iX3_makeDirtyForAll_X3 hown hG.1 hP 0 rfl rfl 2 (by decide) (hts (.fieldLink RX3 21 "DirtyTiles" "clients" "[LDirtyTiles$Client;") (by decide +kernel)) (fun _ h9 => h9) rfl dX3_makeDirtyForAll_4 ?_
  refine va_alen (v := nI 2) hx hb hG.1 hP 1 3 rfl (ty := .object "DirtyTiles$Client") rfl rfl dX3_makeDirtyForAll_7 ?_
  refine lv_icmp_ge (tgt := 39) hx hb dX3_makeDirtyForAll_8 (by decide) (fun c_8 => ?_) (fun c_8 => ?_)
  · skip
    have c_8 : 2 ≤ 0 := (nI_leI (a := 2) (b := 0) (by omega) (by omega)).mp c_8
    exact absurd c_8 (by decide)
  · skip
    have c_8 : ¬ 2 ≤ 0 := fun z => c_8 ((nI_leI (a := 2) (b := 0) (by omega) (by omega)).mpr z)
    refine lv_aload_n hx hb dX3_makeDirtyForAll_11 rfl (lv_at hl 1 rfl) ?_
    refine va_get (D := D) (ci := 3) (v := .ref (a 5)) (C := RX3) (T := TX3) (N := 5) hx hb hts iX3_makeDirtyForAll_X3 hown hG.1 hP 0 rfl rfl 2 (by decide) (hts (.fieldLink RX3 21 "DirtyTiles" "clients" "[LDirtyTiles$Client;") (by decide +kernel)) (fun _ h9 => h9) rfl dX3_makeDirtyForAll_12 ?_
    refine lv_iload_n hx hb dX3_makeDirtyForAll_15 rfl (lv_at hl 0 rfl) ?_
    refine g_aldq hx hb hG hP 1 3 rfl rfl (k := 0) (x := q 0) (by omega) (by decide) hg0 dX3_makeDirtyForAll_16 ?_
    refine gc_Si (va_runV (As := []) (rest := []) ⟨hx, hb, hml, hown, hts⟩ (c_X1_hasJoined l D cy q J (nI L.length) k) (cwV 0 hts gX3_makeDirtyForAll_X1_hasJoined rfl rfl rfl (by decide +kernel) ⟨Nat.le_of_ble_eq_true rfl, Nat.le_of_ble_eq_true rfl⟩) (gpVR (ci := 1) (q0 := 0) hG (hP.sub [2] rfl) rfl rfl) rfl rfl hl.1 rfl (lv_room (Nat.le_of_ble_eq_true rfl)) dX3_makeDirtyForAll_17 ⟨Nat.zero_le _, Nat.zero_le _⟩) ?_
    refine lv_if_eq (tgt := 33) hx hb dX3_makeDirtyForAll_20 (by decide) (fun c_20 => ?_) (fun c_20 => ?_)
    · skip
      have c_20 : ¬ (J) := gb_eq0.mp c_20
      refine lv_iinc (v := nI 1) (lv' := [(2, .int (nI 1)), (0, .ref (a 0)), (1, .int (nI t))]) hx hb dX3_makeDirtyForAll_33 hl (k := 0) rfl (by decide) (by decide) rfl (fun ls hl => ?_)
      refine lv_goto (tgt := 2) hx hb dX3_makeDirtyForAll_36 (by decide) ?_
      refine lv_iload_n hx hb dX3_makeDirtyForAll_2 rfl (lv_at hl 0 rfl) ?_
      refine lv_aload_n hx hb dX3_makeDirtyForAll_3 rfl (lv_at hl 1 rfl) ?_
      refine va_get (D := D) (ci := 3) (v := .ref (a 5)) (C := RX3) (T := TX3) (N := 5) hx hb hts iX3_makeDirtyForAll_X3 hown hG.1 hP 0 rfl rfl 2 (by decide) (hts (.fieldLink RX3 21 "DirtyTiles" "clients" "[LDirtyTiles$Client;") (by decide +kernel)) (fun _ h9 => h9) rfl dX3_makeDirtyForAll_4 ?_
      refine va_alen (v := nI 2) hx hb hG.1 hP 1 3 rfl (ty := .object "DirtyTiles$Client") rfl rfl dX3_makeDirtyForAll_7 ?_
      refine lv_icmp_ge (tgt := 39) hx hb dX3_makeDirtyForAll_8 (by decide) (fun c_8 => ?_) (fun c_8 => ?_)
      · skip
        have c_8 : 2 ≤ 1 := (nI_leI (a := 2) (b := 1) (by omega) (by omega)).mp c_8
        exact absurd c_8 (by decide)
      · skip
        have c_8 : ¬ 2 ≤ 1 := fun z => c_8 ((nI_leI (a := 2) (b := 1) (by omega) (by omega)).mpr z)
        refine lv_aload_n hx hb dX3_makeDirtyForAll_11 rfl (lv_at hl 1 rfl) ?_
        refine va_get (D := D) (ci := 3) (v := .ref (a 5)) (C := RX3) (T := TX3) (N := 5) hx hb hts iX3_makeDirtyForAll_X3 hown hG.1 hP 0 rfl rfl 2 (by decide) (hts (.fieldLink RX3 21 "DirtyTiles" "clients" "[LDirtyTiles$Client;") (by decide +kernel)) (fun _ h9 => h9) rfl dX3_makeDirtyForAll_12 ?_
        refine lv_iload_n hx hb dX3_makeDirtyForAll_15 rfl (lv_at hl 0 rfl) ?_
        refine g_aldq hx hb hG hP 1 3 rfl rfl (k := 1) (x := r 0) (by omega) (by decide) hg1 dX3_makeDirtyForAll_16 ?_
        refine gc_Si (va_runV (As := []) (rest := []) ⟨hx, hb, hml, hown, hts⟩ (c_X1_hasJoined l D cy r J9 (nI K.length) k9) (cwV 0 hts gX3_makeDirtyForAll_X1_hasJoined rfl rfl rfl (by decide +kernel) ⟨Nat.le_of_ble_eq_true rfl, Nat.le_of_ble_eq_true rfl⟩) (gpVR (ci := 1) (q0 := 0) hG (hP.sub [4] rfl) rfl rfl) rfl rfl hl.1 rfl (lv_room (Nat.le_of_ble_eq_true rfl)) dX3_makeDirtyForAll_17 ⟨Nat.zero_le _, Nat.zero_le _⟩) ?_
        refine lv_if_eq (tgt := 33) hx hb dX3_makeDirtyForAll_20 (by decide) (fun c_20 => ?_) (fun c_20 => ?_)
        · skip
          have c_20 : ¬ (J9) := gb_eq0.mp c_20
          refine lv_iinc (v := nI 2) (lv' := [(2, .int (nI 2)), (0, .ref (a 0)), (1, .int (nI t))]) hx hb dX3_makeDirtyForAll_33 hl (k := 0) rfl (by decide) (by decide) rfl (fun ls hl => ?_)
          refine lv_goto (tgt := 2) hx hb dX3_makeDirtyForAll_36 (by decide) ?_
          refine lv_iload_n hx hb dX3_makeDirtyForAll_2 rfl (lv_at hl 0 rfl) ?_
          refine lv_aload_n hx hb dX3_makeDirtyForAll_3 rfl (lv_at hl 1 rfl) ?_
          refine va_get (D := D) (ci := 3) (v := .ref (a 5)) (C := RX3) (T := TX3) (N := 5) hx hb hts iX3_makeDirtyForAll_X3 hown hG.1 hP 0 rfl rfl 2 (by decide) (hts (.fieldLink RX3 21 "DirtyTiles" "clients" "[LDirtyTiles$Client;") (by decide +kernel)) (fun _ h9 => h9) rfl dX3_makeDirtyForAll_4 ?_
          refine va_alen (v := nI 2) hx hb hG.1 hP 1 3 rfl (ty := .object "DirtyTiles$Client") rfl rfl dX3_makeDirtyForAll_7 ?_
          refine lv_icmp_ge (tgt := 39) hx hb dX3_makeDirtyForAll_8 (by decide) (fun c_8 => ?_) (fun c_8 => ?_)
          · skip
            have c_8 : 2 ≤ 2 := (nI_leI (a := 2) (b := 2) (by omega) (by omega)).mp c_8
            exact hret _ _ _ _ ⟨L, K, f, h⟩ dX3_makeDirtyForAll_39 (by refine ⟨?_, ?_, ?_, ?_⟩ <;> first | exact soilJ_t (by assumption) | exact soilJ_f (by assumption) | (rw [← soilJ_t (by assumption)]; assumption) | (rw [← soilJ_f (by assumption)]; assumption)) (hP.sub [0, 1, 2, 3, 4, 5] rfl) (hD.sub [0, 1, 2, 3, 4, 5] (by decide) rfl) hS
          · skip
            have c_8 : ¬ 2 ≤ 2 := fun z => c_8 ((nI_leI (a := 2) (b := 2) (by omega) (by omega)).mpr z)
            exact absurd c_8 (by decide)
        · skip
          have c_20 : J9 := gb_ne0.mp c_20
          refine lv_aload_n hx hb dX3_makeDirtyForAll_23 rfl (lv_at hl 1 rfl) ?_
          refine va_get (D := D) (ci := 3) (v := .ref (a 5)) (C := RX3) (T := TX3) (N := 5) hx hb hts iX3_makeDirtyForAll_X3 hown hG.1 hP 0 rfl rfl 2 (by decide) (hts (.fieldLink RX3 21 "DirtyTiles" "clients" "[LDirtyTiles$Client;") (by decide +kernel)) (fun _ h9 => h9) rfl dX3_makeDirtyForAll_24 ?_
          refine lv_iload_n hx hb dX3_makeDirtyForAll_27 rfl (lv_at hl 0 rfl) ?_
          refine g_aldq hx hb hG hP 1 3 rfl rfl (k := 1) (x := r 0) (by omega) (by decide) hg1 dX3_makeDirtyForAll_28 ?_
          refine lv_iload_n hx hb dX3_makeDirtyForAll_29 rfl (lv_at hl 2 rfl) ?_
          refine gc_Wv (wn := fun u => [(a 0, eTop (a 1) (a 3) (a 5) (a 6) uw), (a 5, eQ cy 2 g), (q 0, eCli (gb (J)) (q 1) (q 3) (q 5) (q 7) (nI L.length) (q 8) (q 9) k), (q 7, eI cy 12 f), (r 0, eCli (gb (J9)) (r 1) (r 3) (r 5) (r 7) (nI u.1.length) (r 8) (r 9) k9), (r 7, eI cy 12 u.2)]) (wr := [(a 0, eTop (a 1) (a 3) (a 5) (a 6) uw), (a 5, eQ cy 2 g), (q 0, eCli (gb (J)) (q 1) (q 3) (q 5) (q 7) (nI L.length) (q 8) (q 9) k), (q 7, eI cy 12 f)]) (va_runV (As := [.int (nI t)]) (rest := []) ⟨hx, hb, hml, hown, hts⟩ (c_X1_makeDirty l D cy H.size r J9 k9 K h t hK hk9 ht) (cwV 1 hts gX3_makeDirtyForAll_X1_makeDirty rfl rfl rfl (by decide +kernel) ⟨Nat.le_of_ble_eq_true rfl, Nat.le_of_ble_eq_true rfl⟩) (gpVI (ci := 1) (q0 := 0) hG (hP.sub [4, 5] rfl) (hD.sub [4, 5] (by decide) rfl) rfl rfl) rfl rfl hl.1 rfl (lv_room (Nat.le_of_ble_eq_true rfl)) dX3_makeDirtyForAll_30 ⟨Nat.zero_le _, Nat.zero_le _⟩) hP hD hS hA [4, 5] [0, 1, 2, 3] [0, 1, 2, 3, 4, 5] rfl rfl (by decide) (by decide) (fun _ => rfl) (by decide) (fun u9 H locs hw_30 hP hD hS => ?_)
          obtain ⟨L2_30, h1⟩ := u9
          have hP : va_P D vwCl [(a 0, eTop (a 1) (a 3) (a 5) (a 6) uw), (a 5, eQ cy 2 g), (q 0, eCli (gb (J)) (q 1) (q 3) (q 5) (q 7) (nI L.length) (q 8) (q 9) k), (q 7, eI cy 12 f), (r 0, eCli (gb (J9)) (r 1) (r 3) (r 5) (r 7) (nI L2_30.length) (r 8) (r 9) k9), (r 7, eI cy 12 h1)] H := hP
          have hD : va_D AA [(a 0, eTop (a 1) (a 3) (a 5) (a 6) uw), (a 5, eQ cy 2 g), (q 0, eCli (gb (J)) (q 1) (q 3) (q 5) (q 7) (nI L.length) (q 8) (q 9) k), (q 7, eI cy 12 f), (r 0, eCli (gb (J9)) (r 1) (r 3) (r 5) (r 7) (nI L2_30.length) (r 8) (r 9) k9), (r 7, eI cy 12 h1)] := hD
          obtain ⟨ef_30, hw_30⟩ := hw_30
          subst ef_30
          have hP : va_P D vwCl [(a 0, eTop (a 1) (a 3) (a 5) (a 6) uw), (a 5, eQ cy 2 g), (q 0, eCli (gb (J)) (q 1) (q 3) (q 5) (q 7) (nI L.length) (q 8) (q 9) k), (q 7, eI cy 12 f), (r 0, eCli (gb (J9)) (r 1) (r 3) (r 5) (r 7) (nI (soil K t).length) (r 8) (r 9) k9), (r 7, eI cy 12 h1)] H := hP
          have hD : va_D AA [(a 0, eTop (a 1) (a 3) (a 5) (a 6) uw), (a 5, eQ cy 2 g), (q 0, eCli (gb (J)) (q 1) (q 3) (q 5) (q 7) (nI L.length) (q 8) (q 9) k), (q 7, eI cy 12 f), (r 0, eCli (gb (J9)) (r 1) (r 3) (r 5) (r 7) (nI (soil K t).length) (r 8) (r 9) k9), (r 7, eI cy 12 h1)] := hD
          have hw_30 : hN (soil K t) h1 := hw_30
          refine lv_iinc (v := nI 2) (lv' := [(2, .int (nI 2)), (0, .ref (a 0)), (1, .int (nI t))]) hx hb dX3_makeDirtyForAll_33 hl (k := 0) rfl (by decide) (by decide) rfl (fun ls hl => ?_)
          refine lv_goto (tgt := 2) hx hb dX3_makeDirtyForAll_36 (by decide) ?_
          refine lv_iload_n hx hb dX3_makeDirtyForAll_2 rfl (lv_at hl 0 rfl) ?_
          refine lv_aload_n hx hb dX3_makeDirtyForAll_3 rfl (lv_at hl 1 rfl) ?_
          refine va_get (D := D) (ci := 3) (v := .ref (a 5)) (C := RX3) (T := TX3) (N := 5) hx hb hts iX3_makeDirtyForAll_X3 hown hG.1 hP 0 rfl rfl 2 (by decide) (hts (.fieldLink RX3 21 "DirtyTiles" "clients" "[LDirtyTiles$Client;") (by decide +kernel)) (fun _ h9 => h9) rfl dX3_makeDirtyForAll_4 ?_
          refine va_alen (v := nI 2) hx hb hG.1 hP 1 3 rfl (ty := .object "DirtyTiles$Client") rfl rfl dX3_makeDirtyForAll_7 ?_
          refine lv_icmp_ge (tgt := 39) hx hb dX3_makeDirtyForAll_8 (by decide) (fun c_8 => ?_) (fun c_8 => ?_)
          · skip
            have c_8 : 2 ≤ 2 := (nI_leI (a := 2) (b := 2) (by omega) (by omega)).mp c_8
            exact hret _ _ _ _ ⟨L, (soil K t), f, h1⟩ dX3_makeDirtyForAll_39 (by refine ⟨?_, ?_, ?_, ?_⟩ <;> first | exact soilJ_t (by assumption) | exact soilJ_f (by assumption) | (rw [← soilJ_t (by assumption)]; assumption) | (rw [← soilJ_f (by assumption)]; assumption)) (hP.sub [0, 1, 2, 3, 4, 5] rfl) (hD.sub [0, 1, 2, 3, 4, 5] (by decide) rfl) hS
          · skip
            have c_8 : ¬ 2 ≤ 2 := fun z => c_8 ((nI_leI (a := 2) (b := 2) (by omega) (by omega)).mpr z)
            exact absurd c_8 (by decide)
    · skip
      have c_20 : J := gb_ne0.mp c_20
      refine lv_aload_n hx hb dX3_makeDirtyForAll_23 rfl (lv_at hl 1 rfl) ?_
      refine va_get (D := D) (ci := 3) (v := .ref (a 5)) (C := RX3) (T := TX3) (N := 5) hx hb hts iX3_makeDirtyForAll_X3 hown hG.1 hP 0 rfl rfl 2 (by decide) (hts (.fieldLink RX3 21 "DirtyTiles" "clients" "[LDirtyTiles$Client;") (by decide +kernel)) (fun _ h9 => h9) rfl dX3_makeDirtyForAll_24 ?_
      refine lv_iload_n hx hb dX3_makeDirtyForAll_27 rfl (lv_at hl 0 rfl) ?_
      refine g_aldq hx hb hG hP 1 3 rfl rfl (k := 0) (x := q 0) (by omega) (by decide) hg0 dX3_makeDirtyForAll_28 ?_
      refine lv_iload_n hx hb dX3_makeDirtyForAll_29 rfl (lv_at hl 2 rfl) ?_
      refine gc_Wv (wn := fun u => [(a 0, eTop (a 1) (a 3) (a 5) (a 6) uw), (a 5, eQ cy 2 g), (q 0, eCli (gb (J)) (q 1) (q 3) (q 5) (q 7) (nI u.1.length) (q 8) (q 9) k), (q 7, eI cy 12 u.2), (r 0, eCli (gb (J9)) (r 1) (r 3) (r 5) (r 7) (nI K.length) (r 8) (r 9) k9), (r 7, eI cy 12 h)]) (wr := [(a 0, eTop (a 1) (a 3) (a 5) (a 6) uw), (a 5, eQ cy 2 g), (r 0, eCli (gb (J9)) (r 1) (r 3) (r 5) (r 7) (nI K.length) (r 8) (r 9) k9), (r 7, eI cy 12 h)]) (va_runV (As := [.int (nI t)]) (rest := []) ⟨hx, hb, hml, hown, hts⟩ (c_X1_makeDirty l D cy H.size q J k L f t hL ho ht) (cwV 1 hts gX3_makeDirtyForAll_X1_makeDirty rfl rfl rfl (by decide +kernel) ⟨Nat.le_of_ble_eq_true rfl, Nat.le_of_ble_eq_true rfl⟩) (gpVI (ci := 1) (q0 := 0) hG (hP.sub [2, 3] rfl) (hD.sub [2, 3] (by decide) rfl) rfl rfl) rfl rfl hl.1 rfl (lv_room (Nat.le_of_ble_eq_true rfl)) dX3_makeDirtyForAll_30 ⟨Nat.zero_le _, Nat.zero_le _⟩) hP hD hS hA [2, 3] [0, 1, 4, 5] [0, 1, 4, 5, 2, 3] rfl rfl (by decide) (by decide) (fun _ => rfl) (by decide) (fun u9 H locs hw_30 hP hD hS => ?_)
      obtain ⟨L2_30_2, f1_2⟩ := u9
      have hP : va_P D vwCl [(a 0, eTop (a 1) (a 3) (a 5) (a 6) uw), (a 5, eQ cy 2 g), (q 0, eCli (gb (J)) (q 1) (q 3) (q 5) (q 7) (nI L2_30_2.length) (q 8) (q 9) k), (q 7, eI cy 12 f1_2), (r 0, eCli (gb (J9)) (r 1) (r 3) (r 5) (r 7) (nI K.length) (r 8) (r 9) k9), (r 7, eI cy 12 h)] H := hP
      have hD : va_D AA [(a 0, eTop (a 1) (a 3) (a 5) (a 6) uw), (a 5, eQ cy 2 g), (q 0, eCli (gb (J)) (q 1) (q 3) (q 5) (q 7) (nI L2_30_2.length) (q 8) (q 9) k), (q 7, eI cy 12 f1_2), (r 0, eCli (gb (J9)) (r 1) (r 3) (r 5) (r 7) (nI K.length) (r 8) (r 9) k9), (r 7, eI cy 12 h)] := hD
      obtain ⟨ef_30, hw_30⟩ := hw_30
      subst ef_30
      have hP : va_P D vwCl [(a 0, eTop (a 1) (a 3) (a 5) (a 6) uw), (a 5, eQ cy 2 g), (q 0, eCli (gb (J)) (q 1) (q 3) (q 5) (q 7) (nI (soil L t).length) (q 8) (q 9) k), (q 7, eI cy 12 f1_2), (r 0, eCli (gb (J9)) (r 1) (r 3) (r 5) (r 7) (nI K.length) (r 8) (r 9) k9), (r 7, eI cy 12 h)] H := hP
      have hD : va_D AA [(a 0, eTop (a 1) (a 3) (a 5) (a 6) uw), (a 5, eQ cy 2 g), (q 0, eCli (gb (J)) (q 1) (q 3) (q 5) (q 7) (nI (soil L t).length) (q 8) (q 9) k), (q 7, eI cy 12 f1_2), (r 0, eCli (gb (J9)) (r 1) (r 3) (r 5) (r 7) (nI K.length) (r 8) (r 9) k9), (r 7, eI cy 12 h)] := hD
      have hw_30 : hN (soil L t) f1_2 := hw_30
      refine lv_iinc (v := nI 1) (lv' := [(2, .int (nI 1)), (0, .ref (a 0)), (1, .int (nI t))]) hx hb dX3_makeDirtyForAll_33 hl (k := 0) rfl (by decide) (by decide) rfl (fun ls hl => ?_)
      refine lv_goto (tgt := 2) hx hb dX3_makeDirtyForAll_36 (by decide) ?_
      refine lv_iload_n hx hb dX3_makeDirtyForAll_2 rfl (lv_at hl 0 rfl) ?_
      refine lv_aload_n hx hb dX3_makeDirtyForAll_3 rfl (lv_at hl 1 rfl) ?_
      refine va_get (D := D) (ci := 3) (v := .ref (a 5)) (C := RX3) (T := TX3) (N := 5) hx hb hts iX3_makeDirtyForAll_X3 hown hG.1 hP 0 rfl rfl 2 (by decide) (hts (.fieldLink RX3 21 "DirtyTiles" "clients" "[LDirtyTiles$Client;") (by decide +kernel)) (fun _ h9 => h9) rfl dX3_makeDirtyForAll_4 ?_
      refine va_alen (v := nI 2) hx hb hG.1 hP 1 3 rfl (ty := .object "DirtyTiles$Client") rfl rfl dX3_makeDirtyForAll_7 ?_
      refine lv_icmp_ge (tgt := 39) hx hb dX3_makeDirtyForAll_8 (by decide) (fun c_8 => ?_) (fun c_8 => ?_)
      · skip
        have c_8 : 2 ≤ 1 := (nI_leI (a := 2) (b := 1) (by omega) (by omega)).mp c_8
        exact absurd c_8 (by decide)
      · skip
        have c_8 : ¬ 2 ≤ 1 := fun z => c_8 ((nI_leI (a := 2) (b := 1) (by omega) (by omega)).mpr z)
        refine lv_aload_n hx hb dX3_makeDirtyForAll_11 rfl (lv_at hl 1 rfl) ?_
        refine va_get (D := D) (ci := 3) (v := .ref (a 5)) (C := RX3) (T := TX3) (N := 5) hx hb hts iX3_makeDirtyForAll_X3 hown hG.1 hP 0 rfl rfl 2 (by decide) (hts (.fieldLink RX3 21 "DirtyTiles" "clients" "[LDirtyTiles$Client;") (by decide +kernel)) (fun _ h9 => h9) rfl dX3_makeDirtyForAll_12 ?_
        refine lv_iload_n hx hb dX3_makeDirtyForAll_15 rfl (lv_at hl 0 rfl) ?_
        refine g_aldq hx hb hG hP 1 3 rfl rfl (k := 1) (x := r 0) (by omega) (by decide) hg1 dX3_makeDirtyForAll_16 ?_
        refine gc_Si (va_runV (As := []) (rest := []) ⟨hx, hb, hml, hown, hts⟩ (c_X1_hasJoined l D cy r J9 (nI K.length) k9) (cwV 0 hts gX3_makeDirtyForAll_X1_hasJoined rfl rfl rfl (by decide +kernel) ⟨Nat.le_of_ble_eq_true rfl, Nat.le_of_ble_eq_true rfl⟩) (gpVR (ci := 1) (q0 := 0) hG (hP.sub [4] rfl) rfl rfl) rfl rfl hl.1 rfl (lv_room (Nat.le_of_ble_eq_true rfl)) dX3_makeDirtyForAll_17 ⟨Nat.zero_le _, Nat.zero_le _⟩) ?_
        refine lv_if_eq (tgt := 33) hx hb dX3_makeDirtyForAll_20 (by decide) (fun c_20 => ?_) (fun c_20 => ?_)
        · skip
          have c_20 : ¬ (J9) := gb_eq0.mp c_20
          refine lv_iinc (v := nI 2) (lv' := [(2, .int (nI 2)), (0, .ref (a 0)), (1, .int (nI t))]) hx hb dX3_makeDirtyForAll_33 hl (k := 0) rfl (by decide) (by decide) rfl (fun ls hl => ?_)
          refine lv_goto (tgt := 2) hx hb dX3_makeDirtyForAll_36 (by decide) ?_
          refine lv_iload_n hx hb dX3_makeDirtyForAll_2 rfl (lv_at hl 0 rfl) ?_
          refine lv_aload_n hx hb dX3_makeDirtyForAll_3 rfl (lv_at hl 1 rfl) ?_
          refine va_get (D := D) (ci := 3) (v := .ref (a 5)) (C := RX3) (T := TX3) (N := 5) hx hb hts iX3_makeDirtyForAll_X3 hown hG.1 hP 0 rfl rfl 2 (by decide) (hts (.fieldLink RX3 21 "DirtyTiles" "clients" "[LDirtyTiles$Client;") (by decide +kernel)) (fun _ h9 => h9) rfl dX3_makeDirtyForAll_4 ?_
          refine va_alen (v := nI 2) hx hb hG.1 hP 1 3 rfl (ty := .object "DirtyTiles$Client") rfl rfl dX3_makeDirtyForAll_7 ?_
          refine lv_icmp_ge (tgt := 39) hx hb dX3_makeDirtyForAll_8 (by decide) (fun c_8 => ?_) (fun c_8 => ?_)
          · skip
            have c_8 : 2 ≤ 2 := (nI_leI (a := 2) (b := 2) (by omega) (by omega)).mp c_8
            exact hret _ _ _ _ ⟨(soil L t), K, f1_2, h⟩ dX3_makeDirtyForAll_39 (by refine ⟨?_, ?_, ?_, ?_⟩ <;> first | exact soilJ_t (by assumption) | exact soilJ_f (by assumption) | (rw [← soilJ_t (by assumption)]; assumption) | (rw [← soilJ_f (by assumption)]; assumption)) (hP.sub [0, 1, 2, 3, 4, 5] rfl) (hD.sub [0, 1, 2, 3, 4, 5] (by decide) rfl) hS
          · skip
            have c_8 : ¬ 2 ≤ 2 := fun z => c_8 ((nI_leI (a := 2) (b := 2) (by omega) (by omega)).mpr z)
            exact absurd c_8 (by decide)
        · skip
          have c_20 : J9 := gb_ne0.mp c_20
          refine lv_aload_n hx hb dX3_makeDirtyForAll_23 rfl (lv_at hl 1 rfl) ?_
          refine va_get (D := D) (ci := 3) (v := .ref (a 5)) (C := RX3) (T := TX3) (N := 5) hx hb hts iX3_makeDirtyForAll_X3 hown hG.1 hP 0 rfl rfl 2 (by decide) (hts (.fieldLink RX3 21 "DirtyTiles" "clients" "[LDirtyTiles$Client;") (by decide +kernel)) (fun _ h9 => h9) rfl dX3_makeDirtyForAll_24 ?_
          refine lv_iload_n hx hb dX3_makeDirtyForAll_27 rfl (lv_at hl 0 rfl) ?_
          refine g_aldq hx hb hG hP 1 3 rfl rfl (k := 1) (x := r 0) (by omega) (by decide) hg1 dX3_makeDirtyForAll_28 ?_
          refine lv_iload_n hx hb dX3_makeDirtyForAll_29 rfl (lv_at hl 2 rfl) ?_
          refine gc_Wv (wn := fun u => [(a 0, eTop (a 1) (a 3) (a 5) (a 6) uw), (a 5, eQ cy 2 g), (q 0, eCli (gb (J)) (q 1) (q 3) (q 5) (q 7) (nI (soil L t).length) (q 8) (q 9) k), (q 7, eI cy 12 f1_2), (r 0, eCli (gb (J9)) (r 1) (r 3) (r 5) (r 7) (nI u.1.length) (r 8) (r 9) k9), (r 7, eI cy 12 u.2)]) (wr := [(a 0, eTop (a 1) (a 3) (a 5) (a 6) uw), (a 5, eQ cy 2 g), (q 0, eCli (gb (J)) (q 1) (q 3) (q 5) (q 7) (nI (soil L t).length) (q 8) (q 9) k), (q 7, eI cy 12 f1_2)]) (va_runV (As := [.int (nI t)]) (rest := []) ⟨hx, hb, hml, hown, hts⟩ (c_X1_makeDirty l D cy H.size r J9 k9 K h t hK hk9 ht) (cwV 1 hts gX3_makeDirtyForAll_X1_makeDirty rfl rfl rfl (by decide +kernel) ⟨Nat.le_of_ble_eq_true rfl, Nat.le_of_ble_eq_true rfl⟩) (gpVI (ci := 1) (q0 := 0) hG (hP.sub [4, 5] rfl) (hD.sub [4, 5] (by decide) rfl) rfl rfl) rfl rfl hl.1 rfl (lv_room (Nat.le_of_ble_eq_true rfl)) dX3_makeDirtyForAll_30 ⟨Nat.zero_le _, Nat.zero_le _⟩) hP hD hS hA [4, 5] [0, 1, 2, 3] [0, 1, 2, 3, 4, 5] rfl rfl (by decide) (by decide) (fun _ => rfl) (by decide) (fun u9 H locs hw_30 hP hD hS => ?_)
          obtain ⟨L2_30_3, h1_3⟩ := u9
          have hP : va_P D vwCl [(a 0, eTop (a 1) (a 3) (a 5) (a 6) uw), (a 5, eQ cy 2 g), (q 0, eCli (gb (J)) (q 1) (q 3) (q 5) (q 7) (nI (soil L t).length) (q 8) (q 9) k), (q 7, eI cy 12 f1_2), (r 0, eCli (gb (J9)) (r 1) (r 3) (r 5) (r 7) (nI L2_30_3.length) (r 8) (r 9) k9), (r 7, eI cy 12 h1_3)] H := hP
          have hD : va_D AA [(a 0, eTop (a 1) (a 3) (a 5) (a 6) uw), (a 5, eQ cy 2 g), (q 0, eCli (gb (J)) (q 1) (q 3) (q 5) (q 7) (nI (soil L t).length) (q 8) (q 9) k), (q 7, eI cy 12 f1_2), (r 0, eCli (gb (J9)) (r 1) (r 3) (r 5) (r 7) (nI L2_30_3.length) (r 8) (r 9) k9), (r 7, eI cy 12 h1_3)] := hD
          obtain ⟨ef_30, hw_30⟩ := hw_30
          subst ef_30
          have hP : va_P D vwCl [(a 0, eTop (a 1) (a 3) (a 5) (a 6) uw), (a 5, eQ cy 2 g), (q 0, eCli (gb (J)) (q 1) (q 3) (q 5) (q 7) (nI (soil L t).length) (q 8) (q 9) k), (q 7, eI cy 12 f1_2), (r 0, eCli (gb (J9)) (r 1) (r 3) (r 5) (r 7) (nI (soil K t).length) (r 8) (r 9) k9), (r 7, eI cy 12 h1_3)] H := hP
          have hD : va_D AA [(a 0, eTop (a 1) (a 3) (a 5) (a 6) uw), (a 5, eQ cy 2 g), (q 0, eCli (gb (J)) (q 1) (q 3) (q 5) (q 7) (nI (soil L t).length) (q 8) (q 9) k), (q 7, eI cy 12 f1_2), (r 0, eCli (gb (J9)) (r 1) (r 3) (r 5) (r 7) (nI (soil K t).length) (r 8) (r 9) k9), (r 7, eI cy 12 h1_3)] := hD
          have hw_30 : hN (soil K t) h1_3 := hw_30
          refine lv_iinc (v := nI 2) (lv' := [(2, .int (nI 2)), (0, .ref (a 0)), (1, .int (nI t))]) hx hb dX3_makeDirtyForAll_33 hl (k := 0) rfl (by decide) (by decide) rfl (fun ls hl => ?_)
          refine lv_goto (tgt := 2) hx hb dX3_makeDirtyForAll_36 (by decide) ?_
          refine lv_iload_n hx hb dX3_makeDirtyForAll_2 rfl (lv_at hl 0 rfl) ?_
          refine lv_aload_n hx hb dX3_makeDirtyForAll_3 rfl (lv_at hl 1 rfl) ?_
          refine va_get (D := D) (ci := 3) (v := .ref (a 5)) (C := RX3) (T := TX3) (N := 5) hx hb hts iX3_makeDirtyForAll_X3 hown hG.1 hP 0 rfl rfl 2 (by decide) (hts (.fieldLink RX3 21 "DirtyTiles" "clients" "[LDirtyTiles$Client;") (by decide +kernel)) (fun _ h9 => h9) rfl dX3_makeDirtyForAll_4 ?_
          refine va_alen (v := nI 2) hx hb hG.1 hP 1 3 rfl (ty := .object "DirtyTiles$Client") rfl rfl dX3_makeDirtyForAll_7 ?_
          refine lv_icmp_ge (tgt := 39) hx hb dX3_makeDirtyForAll_8 (by decide) (fun c_8 => ?_) (fun c_8 => ?_)
          · skip
            have c_8 : 2 ≤ 2 := (nI_leI (a := 2) (b := 2) (by omega) (by omega)).mp c_8
            exact hret _ _ _ _ ⟨(soil L t), (soil K t), f1_2, h1_3⟩ dX3_makeDirtyForAll_39 (by refine ⟨?_, ?_, ?_, ?_⟩ <;> first | exact soilJ_t (by assumption) | exact soilJ_f (by assumption) | (rw [← soilJ_t (by assumption)]; assumption) | (rw [← soilJ_f (by assumption)]; assumption)) (hP.sub [0, 1, 2, 3, 4, 5] rfl) (hD.sub [0, 1, 2, 3, 4, 5] (by decide) rfl) hS
          · skip
            have c_8 : ¬ 2 ≤ 2 := fun z => c_8 ((nI_leI (a := 2) (b := 2) (by omega) (by omega)).mpr z)
            exact absurd c_8 (by decide)
theorem iX3_noteChanges_X3 : ∀ w ∈ wsX30, w ∈ wsX3_noteChanges := by decide +kernel
set_option maxHeartbeats 4000000 in
set_option maxRecDepth 100000 in
theorem c_X3_noteChanges (l : Launch) (D : va_G) (cy : Nat → ClassId) (sz : Nat) (fs fb : Nat → Int64) (a q r : Nat → Nat) (uw : Int32) (g : Nat → Option Nat) (J J9 : Prop) (k k9 : Int32) (L K : List Nat) (f h : Nat → Int32) (hg0 : g 0 = some (q 0)) (hg1 : g 1 = some (r 0)) (hL : hN L f) (ho : okD L) (hK : hN K h) (hk9 : okD K) : Met l yX3_noteChanges wsX3_noteChanges ({ frames := 2, cells := 0, slots := 0, locals := 47 } : Room) (va_Pc [.ref (a 0)] (gI D (gT cy) [(a 0, eTop (a 1) (a 3) (a 5) (a 6) uw), (a 1, eScr (a 2)), (a 2, eJ cy 12 fs), (a 3, eScr (a 4)), (a 4, eJ cy 12 fb), (a 5, eQ cy 2 g), (q 0, eCli (gb (J)) (q 1) (q 3) (q 5) (q 7) (nI L.length) (q 8) (q 9) k), (q 7, eI cy 12 f), (r 0, eCli (gb (J9)) (r 1) (r 3) (r 5) (r 7) (nI K.length) (r 8) (r 9) k9), (r 7, eI cy 12 h)] sz)) (va_Qi (fun (r9 : Int32) (u : (List Nat) × (List Nat) × (Nat → Int32) × (Nat → Int32)) => r9 = nI (sumD fb fs 12) ∧ (u.1 = stlF J fb fs L 12 ∧ u.2.1 = stlF J9 fb fs K 12 ∧ (hN u.1 u.2.2.1 ∧ hN u.2.1 u.2.2.2))) (gO D (fun u : (List Nat) × (List Nat) × (Nat → Int32) × (Nat → Int32) => [(a 0, eTop (a 1) (a 3) (a 5) (a 6) uw), (a 1, eScr (a 2)), (a 2, eJ cy 12 fs), (a 3, eScr (a 4)), (a 4, eJ cy 12 fb), (a 5, eQ cy 2 g), (q 0, eCli (gb (J)) (q 1) (q 3) (q 5) (q 7) (nI u.1.length) (q 8) (q 9) k), (q 7, eI cy 12 u.2.2.1), (r 0, eCli (gb (J9)) (r 1) (r 3) (r 5) (r 7) (nI u.2.1.length) (r 8) (r 9) k9), (r 7, eI cy 12 u.2.2.2)]) (va_A [(a 0, eTop (a 1) (a 3) (a 5) (a 6) uw), (a 1, eScr (a 2)), (a 2, eJ cy 12 fs), (a 3, eScr (a 4)), (a 4, eJ cy 12 fb), (a 5, eQ cy 2 g), (q 0, eCli (gb (J)) (q 1) (q 3) (q 5) (q 7) (nI L.length) (q 8) (q 9) k), (q 7, eI cy 12 f), (r 0, eCli (gb (J9)) (r 1) (r 3) (r 5) (r 7) (nI K.length) (r 8) (r 9) k9), (r 7, eI cy 12 h)] sz)) (va_A [(a 0, eTop (a 1) (a 3) (a 5) (a 6) uw), (a 1, eScr (a 2)), (a 2, eJ cy 12 fs), (a 3, eScr (a 4)), (a 4, eJ cy 12 fb), (a 5, eQ cy 2 g), (q 0, eCli (gb (J)) (q 1) (q 3) (q 5) (q 7) (nI L.length) (q 8) (q 9) k), (q 7, eI cy 12 f), (r 0, eCli (gb (J9)) (r 1) (r 3) (r 5) (r 7) (nI K.length) (r 8) (r 9) k9), (r 7, eI cy 12 h)] sz)) 0 0 (va_A [(a 0, eTop (a 1) (a 3) (a 5) (a 6) uw), (a 1, eScr (a 2)), (a 2, eJ cy 12 fs), (a 3, eScr (a 4)), (a 4, eJ cy 12 fb), (a 5, eQ cy 2 g), (q 0, eCli (gb (J)) (q 1) (q 3) (q 5) (q 7) (nI L.length) (q 8) (q 9) k), (q 7, eI cy 12 f), (r 0, eCli (gb (J9)) (r 1) (r 3) (r 5) (r 7) (nI K.length) (r 8) (r 9) k9), (r 7, eI cy 12 h)] sz) := by
  refine gW_i (cc := cX3_noteChanges) (maxL := 4) (ty := .int) (by decide) rfl (Nat.le_of_ble_eq_true rfl) (fun v u hv => by rfl) ?_
  intro pp ee ss mm bw mt cd QQ AA ls hfx hP hG hD hA hret hl
  have hS : va_S AA ss.heap ss.heap [] := va_S.rf
  obtain ⟨H, eH⟩ : ∃ H, H = ss.heap := ⟨_, rfl⟩
  obtain ⟨locs, eL⟩ : ∃ L : List Loc, L = [] := ⟨_, rfl⟩
  have hP : va_P D vwCl [(a 0, eTop (a 1) (a 3) (a 5) (a 6) uw), (a 1, eScr (a 2)), (a 2, eJ cy 12 fs), (a 3, eScr (a 4)), (a 4, eJ cy 12 fb), (a 5, eQ cy 2 g), (q 0, eCli (gb (J)) (q 1) (q 3) (q 5) (q 7) (nI L.length) (q 8) (q 9) k), (q 7, eI cy 12 f), (r 0, eCli (gb (J9)) (r 1) (r 3) (r 5) (r 7) (nI K.length) (r 8) (r 9) k9), (r 7, eI cy 12 h)] H := by rw [eH]; exact hP
  have hS : va_S AA ss.heap H locs := by rw [eH, eL]; exact hS
  have goal : ∀ X Y, X = H → Y = locs → W pp l ee ({ frames := 2, cells := 0, slots := 0, locals := 47 } : Room) ss mm ([.ref (a 0)] : List Value).toArray bw mt cd X Y 0 0 QQ (F0 mm 0 ls []) → W pp l ee ({ frames := 2, cells := 0, slots := 0, locals := 47 } : Room) ss mm ([.ref (a 0)] : List Value).toArray bw mt cd ss.heap [] 0 0 QQ (F0 mm 0 ls []) := fun X Y hX hY h => by rw [hX, hY, eH, eL] at h; exact h
  refine goal H locs rfl rfl ?_
  clear goal eH eL
  obtain ⟨hx, hb, hml, hown, hts, hlocks⟩ := hfx
  have hown : ss.vm.findClass RX3 = some mm.cls := hown
  have hl : lv_has ls 4 [(0, .ref (a 0))] := hl
  refine lv_iconst (v := nI 0) hx hb dX3_noteChanges_0 (by decide) ?_
  refine lv_istore_n (lv' := [(1, .int (nI 0)), (0, .ref (a 0))]) hx hb dX3_noteChanges_1 rfl hl (by decide) rfl (fun ls hl => ?_)
  refine lv_iconst (v := nI 0) hx hb dX3_noteChanges_2 (by decide) ?_
  refine lv_istore_n (lv' := [(2, .int (nI 0)), (1, .int (nI 0)), (0, .ref (a 0))]) hx hb dX3_noteChanges_3 rfl hl (by decide) rfl (fun ls hl => ?_)
  have loop_4 : ∀ (n9 : Nat) (i w : Nat) (L1 K1 : List Nat) (f1 h1 : Nat → Int32), 12 - i < n9 → (i ≤ 12) → (w = sumD fb fs i) → (L1 = stlF J fb fs L i) → (K1 = stlF J9 fb fs K i) → (hN L1 f1) → (hN K1 h1) → ∀ (H : Heap) (locs : List Loc) (ls : Array Slot), va_P D vwCl [(a 0, eTop (a 1) (a 3) (a 5) (a 6) uw), (a 1, eScr (a 2)), (a 2, eJ cy 12 fs), (a 3, eScr (a 4)), (a 4, eJ cy 12 fb), (a 5, eQ cy 2 g), (q 0, eCli (gb (J)) (q 1) (q 3) (q 5) (q 7) (nI L1.length) (q 8) (q 9) k), (q 7, eI cy 12 f1), (r 0, eCli (gb (J9)) (r 1) (r 3) (r 5) (r 7) (nI K1.length) (r 8) (r 9) k9), (r 7, eI cy 12 h1)] H → va_D AA [(a 0, eTop (a 1) (a 3) (a 5) (a 6) uw), (a 1, eScr (a 2)), (a 2, eJ cy 12 fs), (a 3, eScr (a 4)), (a 4, eJ cy 12 fb), (a 5, eQ cy 2 g), (q 0, eCli (gb (J)) (q 1) (q 3) (q 5) (q 7) (nI L1.length) (q 8) (q 9) k), (q 7, eI cy 12 f1), (r 0, eCli (gb (J9)) (r 1) (r 3) (r 5) (r 7) (nI K1.length) (r 8) (r 9) k9), (r 7, eI cy 12 h1)] → va_S AA ss.heap H locs → lv_has ls 4 [(0, .ref (a 0)), (1, .int (nI w)), (2, .int (nI i))] → W pp l ee ({ frames := 2, cells := 0, slots := 0, locals := 47 } : Room) ss mm ([.ref (a 0)] : List Value).toArray bw mt cd H locs 0 0 QQ (F0 mm 4 ls []) := by
    intro n9
    induction n9 with
    | zero => intro i w L1 K1 f1 h1 h9; exact absurd h9 (Nat.not_lt_zero _)
    | succ n9 ih_4 =>
      intro i w L1 K1 f1 h1 hm_4 hi hw hL1 hK1 hf1 hh1 H locs ls hP hD hS hl
      have o1 : okD L1 := by rw [hL1]; exact stlF_ok ho i hi
      have o2 : okD K1 := by rw [hK1]; exact stlF_ok hk9 i hi
      have z1 := nDif_le (fb i) (fs i)
      have z2 := sumD_le fb fs i
      refine lv_iload_n hx hb dX3_noteChanges_4 rfl (lv_at hl 2 rfl) ?_
      refine lv_bipush (v := nI 12) hx hb dX3_noteChanges_5 (by decide) ?_
      refine lv_icmp_ge (tgt := 49) hx hb dX3_noteChanges_7 (by decide) (fun c_7 => ?_) (fun c_7 => ?_)
      · skip
        have c_7 : 12 ≤ i := (nI_leI (a := 12) (b := i) (by omega) (by omega)).mp c_7
        refine lv_iload_n hx hb dX3_noteChanges_49 rfl (lv_at hl 1 rfl) ?_
        have e9 : i = 12 := by omega
        rw [e9] at hw hL1 hK1
        exact hret _ _ _ _ _ ⟨L1, K1, f1, h1⟩ dX3_noteChanges_50 (⟨by rw [hw], hL1, hK1, hf1, hh1⟩) (hP.sub [0, 1, 2, 3, 4, 5, 6, 7, 8, 9] rfl) (hD.sub [0, 1, 2, 3, 4, 5, 6, 7, 8, 9] (by decide) rfl) hS
      · skip
        have c_7 : ¬ 12 ≤ i := fun z => c_7 ((nI_leI (a := 12) (b := i) (by omega) (by omega)).mpr z)
        refine lv_aload_n hx hb dX3_noteChanges_10 rfl (lv_at hl 0 rfl) ?_
        refine va_get (D := D) (ci := 3) (v := .ref (a 3)) (C := RX3) (T := TX3) (N := 5) hx hb hts iX3_noteChanges_X3 hown hG.1 hP 0 rfl rfl 1 (by decide) (hts (.fieldLink RX3 16 "DirtyTiles" "screenBefore" "LDirtyTiles$Screen;") (by decide +kernel)) (fun _ h9 => h9) rfl dX3_noteChanges_11 ?_
        refine lv_iload_n hx hb dX3_noteChanges_14 rfl (lv_at hl 2 rfl) ?_
        refine gc_Sl (va_runV (As := [.int (nI i)]) (rest := []) ⟨hx, hb, hml, hown, hts⟩ (c_X2_cellsOf l D cy (a 3) (a 4) fb i (by omega)) (cwV 1 hts gX3_noteChanges_X2_cellsOf rfl rfl rfl (by decide +kernel) ⟨Nat.le_of_ble_eq_true rfl, Nat.le_of_ble_eq_true rfl⟩) (gpVR (ci := 2) (q0 := 0) hG (hP.sub [3, 4] rfl) rfl rfl) rfl rfl hl.1 rfl (lv_room (Nat.le_of_ble_eq_true rfl)) dX3_noteChanges_15 ⟨Nat.zero_le _, Nat.zero_le _⟩) ?_
        refine lv_aload_n hx hb dX3_noteChanges_18 rfl (lv_at hl 0 rfl) ?_
        refine va_get (D := D) (ci := 3) (v := .ref (a 1)) (C := RX3) (T := TX3) (N := 5) hx hb hts iX3_noteChanges_X3 hown hG.1 hP 0 rfl rfl 0 (by decide) (hts (.fieldLink RX3 10 "DirtyTiles" "screen" "LDirtyTiles$Screen;") (by decide +kernel)) (fun _ h9 => h9) rfl dX3_noteChanges_19 ?_
        refine lv_iload_n hx hb dX3_noteChanges_22 rfl (lv_at hl 2 rfl) ?_
        refine gc_Sl (va_runV (As := [.int (nI i)]) (rest := [.long (fb i)]) ⟨hx, hb, hml, hown, hts⟩ (c_X2_cellsOf l D cy (a 1) (a 2) fs i (by omega)) (cwV 1 hts gX3_noteChanges_X2_cellsOf rfl rfl rfl (by decide +kernel) ⟨Nat.le_of_ble_eq_true rfl, Nat.le_of_ble_eq_true rfl⟩) (gpVR (ci := 2) (q0 := 0) hG (hP.sub [1, 2] rfl) rfl rfl) rfl rfl hl.1 rfl (lv_room (Nat.le_of_ble_eq_true rfl)) dX3_noteChanges_23 ⟨Nat.zero_le _, Nat.zero_le _⟩) ?_
        refine gc_Si (va_runS (As := [.long (fb i), .long (fs i)]) (rest := []) ⟨hx, hb, hml, hown, hts⟩ (c_X3_countDifferent l D cy (fb i) (fs i)) (va_cwS 2 hts gX3_noteChanges_X3_countDifferent rfl rfl rfl (by decide +kernel) ⟨Nat.le_of_ble_eq_true rfl, Nat.le_of_ble_eq_true rfl⟩) (gpSR hG (hP.sub [] rfl)) rfl rfl hl.1 rfl (lv_room (Nat.le_of_ble_eq_true rfl)) dX3_noteChanges_26 ⟨Nat.zero_le _, Nat.zero_le _⟩) ?_
        refine lv_istore_n (lv' := [(3, .int (nI (nDif (fb i) (fs i)))), (0, .ref (a 0)), (1, .int (nI w)), (2, .int (nI i))]) hx hb dX3_noteChanges_29 rfl hl (by decide) rfl (fun ls hl => ?_)
        refine lv_iload_n hx hb dX3_noteChanges_30 rfl (lv_at hl 0 rfl) ?_
        refine lv_if_le (tgt := 39) hx hb dX3_noteChanges_31 (by decide) (fun c_31 => ?_) (fun c_31 => ?_)
        · skip
          have c_31 : (nDif (fb i) (fs i)) ≤ 0 := (nI_leI (a := (nDif (fb i) (fs i))) (b := 0) (by omega) (by omega)).mp c_31
          refine lv_iload_n hx hb dX3_noteChanges_39 rfl (lv_at hl 2 rfl) ?_
          refine lv_iload_n hx hb dX3_noteChanges_40 rfl (lv_at hl 0 rfl) ?_
          refine lv_iadd hx hb dX3_noteChanges_41 ?_
          refine g_ti (y := nI (w + (nDif (fb i) (fs i)))) (nI_add _ _) ?_
          refine lv_istore_n (lv' := [(1, .int (nI (w + (nDif (fb i) (fs i))))), (3, .int (nI (nDif (fb i) (fs i)))), (0, .ref (a 0)), (2, .int (nI i))]) hx hb dX3_noteChanges_42 rfl hl (by decide) rfl (fun ls hl => ?_)
          refine lv_iinc (v := nI (i + 1)) (lv' := [(2, .int (nI (i + 1))), (1, .int (nI (w + (nDif (fb i) (fs i))))), (3, .int (nI (nDif (fb i) (fs i)))), (0, .ref (a 0))]) hx hb dX3_noteChanges_43 hl (k := 3) rfl (nI_1 _) (by decide) rfl (fun ls hl => ?_)
          refine lv_goto (tgt := 4) hx hb dX3_noteChanges_46 (by decide) ?_
          exact ih_4 (i + 1) (w + (nDif (fb i) (fs i))) L1 K1 f1 h1 (by omega) (by omega) (by rw [hw]; rfl) (by first | exact stlF_t hL1 (by omega) | exact stlF_f hL1 (by omega)) (by first | exact stlF_t hK1 (by omega) | exact stlF_f hK1 (by omega)) (by first | exact hw_36.1 | exact hf1) (by first | exact hw_36.2 | exact hh1) _ _ _ (hP.sub [0, 1, 2, 3, 4, 5, 6, 7, 8, 9] rfl) (hD.sub [0, 1, 2, 3, 4, 5, 6, 7, 8, 9] (by decide) rfl) hS (lv_sub hl [3, 1, 0] rfl)
        · skip
          have c_31 : ¬ (nDif (fb i) (fs i)) ≤ 0 := fun z => c_31 ((nI_leI (a := (nDif (fb i) (fs i))) (b := 0) (by omega) (by omega)).mpr z)
          refine lv_aload_n hx hb dX3_noteChanges_34 rfl (lv_at hl 1 rfl) ?_
          refine lv_iload_n hx hb dX3_noteChanges_35 rfl (lv_at hl 3 rfl) ?_
          refine gc_Wv (wn := fun u => [(a 0, eTop (a 1) (a 3) (a 5) (a 6) uw), (a 1, eScr (a 2)), (a 2, eJ cy 12 fs), (a 3, eScr (a 4)), (a 4, eJ cy 12 fb), (a 5, eQ cy 2 g), (q 0, eCli (gb (J)) (q 1) (q 3) (q 5) (q 7) (nI u.1.length) (q 8) (q 9) k), (q 7, eI cy 12 u.2.2.1), (r 0, eCli (gb (J9)) (r 1) (r 3) (r 5) (r 7) (nI u.2.1.length) (r 8) (r 9) k9), (r 7, eI cy 12 u.2.2.2)]) (wr := [(a 1, eScr (a 2)), (a 2, eJ cy 12 fs), (a 3, eScr (a 4)), (a 4, eJ cy 12 fb)]) (va_runV (As := [.int (nI i)]) (rest := []) ⟨hx, hb, hml, hown, hts⟩ (c_X3_makeDirtyForAll l D cy H.size a q r uw g J J9 k k9 L1 K1 f1 h1 i hg0 hg1 hf1 o1 hh1 o2 (by omega)) (cwV 1 hts gX3_noteChanges_X3_makeDirtyForAll rfl rfl rfl (by decide +kernel) ⟨Nat.le_of_ble_eq_true rfl, Nat.le_of_ble_eq_true rfl⟩) (gpVI (ci := 3) (q0 := 0) hG (hP.sub [0, 5, 6, 7, 8, 9] rfl) (hD.sub [0, 5, 6, 7, 8, 9] (by decide) rfl) rfl rfl) rfl rfl hl.1 rfl (lv_room (Nat.le_of_ble_eq_true rfl)) dX3_noteChanges_36 ⟨Nat.zero_le _, Nat.zero_le _⟩) hP hD hS hA [0, 5, 6, 7, 8, 9] [1, 2, 3, 4] [4, 0, 1, 2, 3, 5, 6, 7, 8, 9] rfl rfl (by decide) (by decide) (fun _ => rfl) (by decide) (fun u9 H locs hw_36 hP hD hS => ?_)
          obtain ⟨L2_36, K2_36, f2a, h2a⟩ := u9
          have hP : va_P D vwCl [(a 0, eTop (a 1) (a 3) (a 5) (a 6) uw), (a 1, eScr (a 2)), (a 2, eJ cy 12 fs), (a 3, eScr (a 4)), (a 4, eJ cy 12 fb), (a 5, eQ cy 2 g), (q 0, eCli (gb (J)) (q 1) (q 3) (q 5) (q 7) (nI L2_36.length) (q 8) (q 9) k), (q 7, eI cy 12 f2a), (r 0, eCli (gb (J9)) (r 1) (r 3) (r 5) (r 7) (nI K2_36.length) (r 8) (r 9) k9), (r 7, eI cy 12 h2a)] H := hP
          have hD : va_D AA [(a 0, eTop (a 1) (a 3) (a 5) (a 6) uw), (a 1, eScr (a 2)), (a 2, eJ cy 12 fs), (a 3, eScr (a 4)), (a 4, eJ cy 12 fb), (a 5, eQ cy 2 g), (q 0, eCli (gb (J)) (q 1) (q 3) (q 5) (q 7) (nI L2_36.length) (q 8) (q 9) k), (q 7, eI cy 12 f2a), (r 0, eCli (gb (J9)) (r 1) (r 3) (r 5) (r 7) (nI K2_36.length) (r 8) (r 9) k9), (r 7, eI cy 12 h2a)] := hD
          obtain ⟨ef_36, hw_36⟩ := hw_36
          subst ef_36
          obtain ⟨ef_36, hw_36⟩ := hw_36
          subst ef_36
          have hP : va_P D vwCl [(a 0, eTop (a 1) (a 3) (a 5) (a 6) uw), (a 1, eScr (a 2)), (a 2, eJ cy 12 fs), (a 3, eScr (a 4)), (a 4, eJ cy 12 fb), (a 5, eQ cy 2 g), (q 0, eCli (gb (J)) (q 1) (q 3) (q 5) (q 7) (nI (soilJ J L1 i).length) (q 8) (q 9) k), (q 7, eI cy 12 f2a), (r 0, eCli (gb (J9)) (r 1) (r 3) (r 5) (r 7) (nI (soilJ J9 K1 i).length) (r 8) (r 9) k9), (r 7, eI cy 12 h2a)] H := hP
          have hD : va_D AA [(a 0, eTop (a 1) (a 3) (a 5) (a 6) uw), (a 1, eScr (a 2)), (a 2, eJ cy 12 fs), (a 3, eScr (a 4)), (a 4, eJ cy 12 fb), (a 5, eQ cy 2 g), (q 0, eCli (gb (J)) (q 1) (q 3) (q 5) (q 7) (nI (soilJ J L1 i).length) (q 8) (q 9) k), (q 7, eI cy 12 f2a), (r 0, eCli (gb (J9)) (r 1) (r 3) (r 5) (r 7) (nI (soilJ J9 K1 i).length) (r 8) (r 9) k9), (r 7, eI cy 12 h2a)] := hD
          have hw_36 : hN (soilJ J L1 i) f2a ∧ hN (soilJ J9 K1 i) h2a := hw_36
          refine lv_iload_n hx hb dX3_noteChanges_39 rfl (lv_at hl 2 rfl) ?_
          refine lv_iload_n hx hb dX3_noteChanges_40 rfl (lv_at hl 0 rfl) ?_
          refine lv_iadd hx hb dX3_noteChanges_41 ?_
          refine g_ti (y := nI (w + (nDif (fb i) (fs i)))) (nI_add _ _) ?_
          refine lv_istore_n (lv' := [(1, .int (nI (w + (nDif (fb i) (fs i))))), (3, .int (nI (nDif (fb i) (fs i)))), (0, .ref (a 0)), (2, .int (nI i))]) hx hb dX3_noteChanges_42 rfl hl (by decide) rfl (fun ls hl => ?_)
          refine lv_iinc (v := nI (i + 1)) (lv' := [(2, .int (nI (i + 1))), (1, .int (nI (w + (nDif (fb i) (fs i))))), (3, .int (nI (nDif (fb i) (fs i)))), (0, .ref (a 0))]) hx hb dX3_noteChanges_43 hl (k := 3) rfl (nI_1 _) (by decide) rfl (fun ls hl => ?_)
          refine lv_goto (tgt := 4) hx hb dX3_noteChanges_46 (by decide) ?_
          exact ih_4 (i + 1) (w + (nDif (fb i) (fs i))) ((soilJ J L1 i)) ((soilJ J9 K1 i)) f2a h2a (by omega) (by omega) (by rw [hw]; rfl) (by first | exact stlF_t hL1 (by omega) | exact stlF_f hL1 (by omega)) (by first | exact stlF_t hK1 (by omega) | exact stlF_f hK1 (by omega)) (by first | exact hw_36.1 | exact hf1) (by first | exact hw_36.2 | exact hh1) _ _ _ (hP.sub [0, 1, 2, 3, 4, 5, 6, 7, 8, 9] rfl) (hD.sub [0, 1, 2, 3, 4, 5, 6, 7, 8, 9] (by decide) rfl) hS (lv_sub hl [3, 1, 0] rfl)
  exact loop_4 ((12 - 0) + 1) 0 0 L K f h (Nat.lt_succ_self _) (by omega) rfl rfl rfl hL hK _ _ _ (hP.sub [0, 1, 2, 3, 4, 5, 6, 7, 8, 9] rfl) (hD.sub [0, 1, 2, 3, 4, 5, 6, 7, 8, 9] (by decide) rfl) hS (lv_sub hl [2, 1, 0] rfl)
