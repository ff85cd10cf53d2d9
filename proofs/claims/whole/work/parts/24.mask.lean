/-! the model: messages -/
/-! the model: messages -/
theorem askF_t0 {s : Nat → Int64} {L : List Nat} {b : Nat} {M : List (Nat × Int64)} {C : List Int64} {w : Nat → Int32} (hi : 0 < L.length) (h : wayO C (s (L.getD 0 0)) % 100 ≤ b) :
    askF s L M C b w = askF s (L.drop 1) (M ++ [(L.getD 0 0, s (L.getD 0 0))]) (brg C (s (L.getD 0 0))) (b - wayO C (s (L.getD 0 0)) % 100) (upd w (wayO C (s (L.getD 0 0)) / 100) (w (wayO C (s (L.getD 0 0)) / 100) + nI 1)) := askF_t (i := 0) hi h
theorem askF_f0 {s : Nat → Int64} {L : List Nat} {b : Nat} {M : List (Nat × Int64)} {C : List Int64} {w : Nat → Int32} (hi : 0 < L.length) (h : ¬ wayO C (s (L.getD 0 0)) % 100 ≤ b) :
    askF s L M C b w = (L, M, C, b, w) := askF_f (i := 0) hi h
theorem askF_e0 {s : Nat → Int64} {L : List Nat} {b : Nat} {M : List (Nat × Int64)} {C : List Int64} {w : Nat → Int32} (hi : L.length ≤ 0) : askF s L M C b w = (L, M, C, b, w) := askF_e (i := 0) hi
theorem hMo_app {M : List (Nat × Int64)} {se ce ce2 : Nat → Int32} {c t : Nat} {x : Int64} (h : hMo M se ce c) (h1 : ∀ j, j < 16 → ce2 (16 * (12 * c + M.length) + j) = nI (cel x j)) (h2 : ∀ j, ¬ (16 * (12 * c + M.length) ≤ j ∧ j < 16 * (12 * c + M.length) + 16) → ce2 j = ce j) : hMo (M ++ [(t, x)]) (upd se (12 * c + M.length) (nI t)) ce2 c := by
  intro j hj
  rw [List.length_append, List.length_singleton] at hj
  by_cases e : j = M.length
  · subst e
    rw [pk_us, mT_last.1, mT_last.2]
    exact ⟨rfl, h1⟩
  · rw [pk_un (by omega), (mT_app (by omega)).1, (mT_app (by omega)).2]
    obtain ⟨q1, q2⟩ := h j (by omega)
    exact ⟨q1, fun k hk => by rw [h2 _ (by omega)]; exact q2 k hk⟩
theorem hNo_drop {L : List Nat} {d d2 : Nat → Int32} {c : Nat} (h : hNo L d c) (h2 : ∀ i, d2 i = if 12 * c ≤ i ∧ i < 12 * c + (L.length - 1) then d (i + 1) else d i) : hNo (L.drop 1) d2 c := by
  intro i hi
  rw [List.length_drop] at hi
  rw [drop_getD, h2, if_pos ⟨by omega, by omega⟩, Nat.add_assoc]
  exact h (i + 1) (by omega)
theorem drop_step {c j : Nat} {d g : Nat → Int32} (hg : ∀ i, g i = if 12 * c ≤ i ∧ i < 12 * c + j then d (i + 1) else d i) : ∀ i, upd g (12 * c + j) (g (12 * c + j + 1)) i = if 12 * c ≤ i ∧ i < 12 * c + (j + 1) then d (i + 1) else d i := by
  intro i
  by_cases e : i = 12 * c + j
  · rw [e, pk_us, hg, if_neg (by omega), if_pos ⟨by omega, by omega⟩]
  · rw [pk_un e, hg i]
    by_cases z : 12 * c ≤ i ∧ i < 12 * c + j
    · rw [if_pos z, if_pos ⟨z.1, by omega⟩]
    · rw [if_neg z, if_neg (by omega)]
theorem out_step {b k n : Nat} {f g : Nat → Int32} {x : Int32} (h : ∀ j, ¬ (b ≤ j ∧ j < b + n) → g j = f j) (hk : k < n) : ∀ j, ¬ (b ≤ j ∧ j < b + n) → upd g (b + k) x j = f j := fun j hj => by
  rw [pk_un (by omega)]; exact h j hj
theorem neg1 {n : Nat} (h : n < 2 ^ 31) : ¬ nI n = -1 := fun e => by
  have := congrArg Int32.toInt e
  rw [nI_toInt h] at this
  have e9 : (-1 : Int32).toInt = -1 := rfl
  omega
theorem tp_cof {x y t k : Nat} (hx : x < 16) (hk : k < 16) (e : 16 * y + x = cof t k) : tl x y = t ∧ plc x y = k := by
  have e : 16 * y + x = 16 * (4 * (t / 4) + k / 4) + 4 * (t % 4) + k % 4 := e
  constructor
  · show 4 * (y / 4) + x / 4 = t; omega
  · show 4 * (y % 4) + x % 4 = k; omega
theorem cof_tp {x y : Nat} (hx : x < 16) : cof (tl x y) (plc x y) = 16 * y + x := by
  show 16 * (4 * ((4 * (y / 4) + x / 4) / 4) + (4 * (y % 4) + x % 4) / 4) + 4 * ((4 * (y / 4) + x / 4) % 4) + (4 * (y % 4) + x % 4) % 4 = 16 * y + x
  omega
/-- a tile on its way to a client's screen, k cells of it there -/
def hSk (f : Nat → Int64) (t : Nat) (X : Int64) (k : Nat) (ss9 : Nat → Int32) (c : Nat) : Prop := ∀ x y, x < 16 → y < 12 → ss9 (192 * c + (16 * y + x)) = nI (if tl x y = t ∧ plc x y < k then cel X (plc x y) else at2 f x y)
theorem hSk_0 {f : Nat → Int64} {t : Nat} {X : Int64} {ss9 : Nat → Int32} {c : Nat} (h : hSo f ss9 c) : hSk f t X 0 ss9 c := fun x y hx hy => by rw [if_neg (by omega)]; exact h x y hx hy
theorem hSk_s {f : Nat → Int64} {t k : Nat} {X : Int64} {ss9 : Nat → Int32} {c : Nat} (h : hSk f t X k ss9 c) (hk : k < 16) : hSk f t X (k + 1) (upd ss9 (192 * c + cof t k) (nI (cel X k))) c := fun x y hx hy => by
  by_cases e : 16 * y + x = cof t k
  · obtain ⟨e1, e2⟩ := tp_cof hx hk e
    rw [e, pk_us, if_pos ⟨e1, by omega⟩, e2]
  · rw [pk_un (fun z => e (Nat.add_left_cancel z)), h x y hx hy]
    by_cases z : tl x y = t ∧ plc x y < k
    · rw [if_pos z, if_pos ⟨z.1, by omega⟩]
    · rw [if_neg z, if_neg (fun z2 => ?_)]
      have e3 : plc x y = k := by
        rcases Nat.lt_or_ge (plc x y) k with q | q
        · exact absurd ⟨z2.1, q⟩ z
        · omega
      exact e (by rw [← z2.1, ← e3, cof_tp hx])
theorem hSk_e {f : Nat → Int64} {t : Nat} {X : Int64} {ss9 : Nat → Int32} {c : Nat} (h : hSk f t X 16 ss9 c) : hSo (vp_updL f t X) ss9 c := fun x y hx hy => by
  rw [h x y hx hy]
  show _ = nI (cel (vp_updL f t X (tl x y)) (plc x y))
  by_cases e : tl x y = t
  · rw [if_pos ⟨e, plc_lt x y⟩, e, pk_uLs]
  · rw [if_neg (fun z => e z.1), pk_uLn e]
theorem iX4_write_X4 : ∀ w ∈ wsX40, w ∈ wsX4_write := by decide +kernel
set_option maxHeartbeats 4000000 in
set_option maxRecDepth 100000 in
theorem c_X4_write_n (l : Launch) (D : va_G) (cy : Nat → ClassId) (sz : Nat) (q : Nat → Nat) (T U : Int32) (sc : Nat → Int32) (ca zs d mn se ce wa fw tl9 : Nat → Int32) (S : Nat → Int64) (L : List Nat) (C : List Int64) (M : List (Nat × Int64)) (c left : Nat) (hc : c < 2) (hs : hS S sc) (hca : hCo C ca c) (hsz : zs c = nI C.length) (hC : C.length ≤ 6) (hd : hNo L d c) (hmn : mn c = nI L.length) (ho : okD L) (h0 : 0 < L.length) (hM9 : hMo M se ce c) (hwa : wa c = nI M.length) (hML : M.length + L.length ≤ 12) (hleft : left ≤ 300) (hfit : ¬ wayO C (S (L.getD 0 0)) % 100 ≤ left) : Met l yX4_write wsX4_write ({ frames := 2, cells := 0, slots := 0, locals := 47 } : Room) (va_Pc [.ref (q 0), .int (nI c), .int (nI left)] (gI D (gT cy) [(q 0, eMod T q U), (q 1, eI cy 192 sc), (q 5, eI cy 224 ca), (q 6, eI cy 2 zs), (q 9, eI cy 24 d), (q 10, eI cy 2 mn), (q 11, eI cy 24 se), (q 12, eI cy 384 ce), (q 13, eI cy 2 wa), (q 14, eI cy 5 fw), (q 16, eI cy 16 tl9)] sz)) (va_Qi (fun (r9 : Int32) (u : (Nat → Int32)) => r9 = (-1) ∧ ((True))) (gO D (fun u : (Nat → Int32) => [(q 0, eMod T q U), (q 1, eI cy 192 sc), (q 5, eI cy 224 ca), (q 6, eI cy 2 zs), (q 9, eI cy 24 d), (q 10, eI cy 2 mn), (q 11, eI cy 24 se), (q 12, eI cy 384 ce), (q 13, eI cy 2 wa), (q 14, eI cy 5 fw), (q 16, eI cy 16 u)]) (va_A [(q 0, eMod T q U), (q 1, eI cy 192 sc), (q 5, eI cy 224 ca), (q 6, eI cy 2 zs), (q 9, eI cy 24 d), (q 10, eI cy 2 mn), (q 11, eI cy 24 se), (q 12, eI cy 384 ce), (q 13, eI cy 2 wa), (q 14, eI cy 5 fw), (q 16, eI cy 16 tl9)] sz)) (va_A [(q 0, eMod T q U), (q 1, eI cy 192 sc), (q 5, eI cy 224 ca), (q 6, eI cy 2 zs), (q 9, eI cy 24 d), (q 10, eI cy 2 mn), (q 11, eI cy 24 se), (q 12, eI cy 384 ce), (q 13, eI cy 2 wa), (q 14, eI cy 5 fw), (q 16, eI cy 16 tl9)] sz)) 0 0 (va_A [(q 0, eMod T q U), (q 1, eI cy 192 sc), (q 5, eI cy 224 ca), (q 6, eI cy 2 zs), (q 9, eI cy 24 d), (q 10, eI cy 2 mn), (q 11, eI cy 24 se), (q 12, eI cy 384 ce), (q 13, eI cy 2 wa), (q 14, eI cy 5 fw), (q 16, eI cy 16 tl9)] sz) := by
  refine gW_i (cc := cX4_write) (maxL := 7) (ty := .int) (by decide) rfl (Nat.le_of_ble_eq_true rfl) (fun v u hv => by rfl) ?_
  intro pp ee ss mm bw mt cd QQ AA ls hfx hP hG hD hA hret hl
  have hS : va_S AA ss.heap ss.heap [] := va_S.rf
  obtain ⟨H, eH⟩ : ∃ H, H = ss.heap := ⟨_, rfl⟩
  obtain ⟨locs, eL⟩ : ∃ L : List Loc, L = [] := ⟨_, rfl⟩
  have hP : va_P D vwCl [(q 0, eMod T q U), (q 1, eI cy 192 sc), (q 5, eI cy 224 ca), (q 6, eI cy 2 zs), (q 9, eI cy 24 d), (q 10, eI cy 2 mn), (q 11, eI cy 24 se), (q 12, eI cy 384 ce), (q 13, eI cy 2 wa), (q 14, eI cy 5 fw), (q 16, eI cy 16 tl9)] H := by rw [eH]; exact hP
  have hS : va_S AA ss.heap H locs := by rw [eH, eL]; exact hS
  have goal : ∀ X Y, X = H → Y = locs → W pp l ee ({ frames := 2, cells := 0, slots := 0, locals := 47 } : Room) ss mm ([.ref (q 0), .int (nI c), .int (nI left)] : List Value).toArray bw mt cd X Y 0 0 QQ (F0 mm 0 ls []) → W pp l ee ({ frames := 2, cells := 0, slots := 0, locals := 47 } : Room) ss mm ([.ref (q 0), .int (nI c), .int (nI left)] : List Value).toArray bw mt cd ss.heap [] 0 0 QQ (F0 mm 0 ls []) := fun X Y hX hY h => by rw [hX, hY, eH, eL] at h; exact h
  refine goal H locs rfl rfl ?_
  clear goal eH eL
  obtain ⟨hx, hb, hml, hown, hts, hlocks⟩ := hfx
  have hown : ss.vm.findClass RX4 = some mm.cls := hown
  have hl : lv_has ls 7 [(0, .ref (q 0)), (1, .int (nI c)), (2, .int (nI left))] := hl
  refine lv_aload_n hx hb dX4_write_0 rfl (lv_at hl 0 rfl) ?_
  refine va_get (D := D) (ci := 4) (v := .ref (q 9)) (C := RX4) (T := TX4) (N := 17) hx hb hts iX4_write_X4 hown hG.1 hP 0 rfl rfl 9 (by decide) (hts (.fieldLink RX4 35 "DirtyTilesModel" "dirty" "[I") (by decide +kernel)) (fun _ h9 => h9) rfl dX4_write_1 ?_
  refine lv_bipush (v := nI 12) hx hb dX4_write_4 (by decide) ?_
  refine lv_iload_n hx hb dX4_write_6 rfl (lv_at hl 1 rfl) ?_
  refine lv_imul hx hb dX4_write_7 ?_
  refine g_ti (y := nI (12 * c)) (pk_mul _ _) ?_
  refine g_iald hx hb hG hP 4 0 rfl rfl (k := 12 * c) (by omega) (by decide) dX4_write_8 ?_
  refine g_ti (y := nI (L.getD 0 0)) (hd 0 h0) ?_
  refine lv_istore_n (lv' := [(3, .int (nI (L.getD 0 0))), (0, .ref (q 0)), (1, .int (nI c)), (2, .int (nI left))]) hx hb dX4_write_9 rfl hl (by decide) rfl (fun ls hl => ?_)
  refine lv_aload_n hx hb dX4_write_10 rfl (lv_at hl 1 rfl) ?_
  refine lv_iload_n hx hb dX4_write_11 rfl (lv_at hl 0 rfl) ?_
  refine gc_Wv (wn := fun u => [(q 0, eMod T q U), (q 1, eI cy 192 sc), (q 5, eI cy 224 ca), (q 6, eI cy 2 zs), (q 9, eI cy 24 d), (q 10, eI cy 2 mn), (q 11, eI cy 24 se), (q 12, eI cy 384 ce), (q 13, eI cy 2 wa), (q 14, eI cy 5 fw), (q 16, eI cy 16 u)]) (wr := [(q 5, eI cy 224 ca), (q 6, eI cy 2 zs), (q 9, eI cy 24 d), (q 10, eI cy 2 mn), (q 11, eI cy 24 se), (q 12, eI cy 384 ce), (q 13, eI cy 2 wa), (q 14, eI cy 5 fw)]) (va_runV (As := [.int (nI (L.getD 0 0))]) (rest := []) ⟨hx, hb, hml, hown, hts⟩ (c_X4_look l D cy H.size q T U sc tl9 S (L.getD 0 0) (okD_get ho h0) hs) (cwV 1 hts gX4_write_X4_look rfl rfl rfl (by decide +kernel) ⟨Nat.le_of_ble_eq_true rfl, Nat.le_of_ble_eq_true rfl⟩) (gpVI (ci := 4) (q0 := 0) hG (hP.sub [0, 1, 10] rfl) (hD.sub [0, 1, 10] (by decide) rfl) rfl rfl) rfl rfl hl.1 rfl (lv_room (Nat.le_of_ble_eq_true rfl)) dX4_write_12 ⟨Nat.zero_le _, Nat.zero_le _⟩) hP hD hS hA [0, 1, 10] [2, 3, 4, 5, 6, 7, 8, 9] [8, 9, 0, 1, 2, 3, 4, 5, 6, 7, 10] rfl rfl (by decide) (by decide) (fun _ => rfl) (by decide) (fun tl3 H locs hw_12 hP hD hS => ?_)
  have hP : va_P D vwCl [(q 0, eMod T q U), (q 1, eI cy 192 sc), (q 5, eI cy 224 ca), (q 6, eI cy 2 zs), (q 9, eI cy 24 d), (q 10, eI cy 2 mn), (q 11, eI cy 24 se), (q 12, eI cy 384 ce), (q 13, eI cy 2 wa), (q 14, eI cy 5 fw), (q 16, eI cy 16 tl3)] H := hP
  have hD : va_D AA [(q 0, eMod T q U), (q 1, eI cy 192 sc), (q 5, eI cy 224 ca), (q 6, eI cy 2 zs), (q 9, eI cy 24 d), (q 10, eI cy 2 mn), (q 11, eI cy 24 se), (q 12, eI cy 384 ce), (q 13, eI cy 2 wa), (q 14, eI cy 5 fw), (q 16, eI cy 16 tl3)] := hD
  have hw_12 : hT (S (L.getD 0 0)) tl3 := hw_12
  refine lv_aload_n hx hb dX4_write_15 rfl (lv_at hl 1 rfl) ?_
  refine lv_iload_n hx hb dX4_write_16 rfl (lv_at hl 2 rfl) ?_
  refine gc_Si (va_runV (As := [.int (nI c)]) (rest := []) ⟨hx, hb, hml, hown, hts⟩ (c_X4_wayOf l D cy q T U ca zs tl3 C (S (L.getD 0 0)) c hc hca hsz hC hw_12) (cwV 1 hts gX4_write_X4_wayOf rfl rfl rfl (by decide +kernel) ⟨Nat.le_of_ble_eq_true rfl, Nat.le_of_ble_eq_true rfl⟩) (gpVR (ci := 4) (q0 := 0) hG (hP.sub [0, 2, 3, 10] rfl) rfl rfl) rfl rfl hl.1 rfl (lv_room (Nat.le_of_ble_eq_true rfl)) dX4_write_17 ⟨Nat.zero_le _, Nat.zero_le _⟩) ?_
  have z2 := wayO_le C (S (L.getD 0 0))
  refine lv_istore (lv' := [(4, .int (nI (wayO C (S (L.getD 0 0))))), (3, .int (nI (L.getD 0 0))), (0, .ref (q 0)), (1, .int (nI c)), (2, .int (nI left))]) hx hb dX4_write_20 hl (by decide) rfl (fun ls hl => ?_)
  refine lv_iload hx hb dX4_write_22 (lv_at hl 0 rfl) ?_
  refine lv_bipush (v := nI 100) hx hb dX4_write_24 (by decide) ?_
  refine lv_irem hx hb dX4_write_26 (nI_ne0 (by omega) (by omega)) ?_
  refine g_ti (y := nI ((wayO C (S (L.getD 0 0))) % 100)) (pk_rem (by omega) (by omega) (by omega)) ?_
  refine lv_iload_n hx hb dX4_write_27 rfl (lv_at hl 4 rfl) ?_
  refine lv_icmp_le (tgt := 33) hx hb dX4_write_28 (by decide) (fun c_28 => ?_) (fun c_28 => ?_)
  · skip
    have c_28 : ((wayO C (S (L.getD 0 0))) % 100) ≤ left := (nI_leI (a := ((wayO C (S (L.getD 0 0))) % 100)) (b := left) (by omega) (by omega)).mp c_28
    exact absurd c_28 hfit
  · skip
    have c_28 : ¬ ((wayO C (S (L.getD 0 0))) % 100) ≤ left := fun z => c_28 ((nI_leI (a := ((wayO C (S (L.getD 0 0))) % 100)) (b := left) (by omega) (by omega)).mpr z)
    refine lv_iconst (v := (-1)) hx hb dX4_write_31 (by decide) ?_
    exact hret _ _ _ _ _ tl3 dX4_write_32 (⟨rfl, trivial⟩) (hP.sub [0, 1, 2, 3, 4, 5, 6, 7, 8, 9, 10] rfl) (hD.sub [0, 1, 2, 3, 4, 5, 6, 7, 8, 9, 10] (by decide) rfl) hS
set_option maxHeartbeats 4000000 in
set_option maxRecDepth 100000 in
theorem c_X4_write (l : Launch) (D : va_G) (cy : Nat → ClassId) (sz : Nat) (q : Nat → Nat) (T U : Int32) (sc : Nat → Int32) (ca zs d mn se ce wa fw tl9 : Nat → Int32) (S : Nat → Int64) (L : List Nat) (C : List Int64) (M : List (Nat × Int64)) (c left : Nat) (hc : c < 2) (hs : hS S sc) (hca : hCo C ca c) (hsz : zs c = nI C.length) (hC : C.length ≤ 6) (hd : hNo L d c) (hmn : mn c = nI L.length) (ho : okD L) (h0 : 0 < L.length) (hM9 : hMo M se ce c) (hwa : wa c = nI M.length) (hML : M.length + L.length ≤ 12) (hleft : left ≤ 300) (hfit : wayO C (S (L.getD 0 0)) % 100 ≤ left) : Met l yX4_write wsX4_write ({ frames := 2, cells := 0, slots := 0, locals := 47 } : Room) (va_Pc [.ref (q 0), .int (nI c), .int (nI left)] (gI D (gT cy) [(q 0, eMod T q U), (q 1, eI cy 192 sc), (q 5, eI cy 224 ca), (q 6, eI cy 2 zs), (q 9, eI cy 24 d), (q 10, eI cy 2 mn), (q 11, eI cy 24 se), (q 12, eI cy 384 ce), (q 13, eI cy 2 wa), (q 14, eI cy 5 fw), (q 16, eI cy 16 tl9)] sz)) (va_Qi (fun (r9 : Int32) (u : (Nat → Int32) × (Nat → Int32) × (Nat → Int32) × (Nat → Int32) × (Nat → Int32) × (Nat → Int32) × (Nat → Int32) × (Nat → Int32) × (Nat → Int32)) => r9 = nI (left - wayO C (S (L.getD 0 0)) % 100) ∧ (u.2.2.2.2.2.2.2.1 = upd fw (wayO C (S (L.getD 0 0)) / 100) (fw (wayO C (S (L.getD 0 0)) / 100) + nI 1) ∧ ((hCo (brg C (S (L.getD 0 0))) u.1 c ∧ u.2.1 c = nI (brg C (S (L.getD 0 0))).length ∧ kO 112 c ca u.1 ∧ kO 1 c zs u.2.1) ∧ (hNo (L.drop 1) u.2.2.1 c ∧ u.2.2.2.1 c = nI (L.length - 1) ∧ kO 12 c d u.2.2.1 ∧ kO 1 c mn u.2.2.2.1) ∧ (hMo (M ++ [(L.getD 0 0, S (L.getD 0 0))]) u.2.2.2.2.1 u.2.2.2.2.2.1 c ∧ u.2.2.2.2.2.2.1 c = nI (M.length + 1) ∧ kO 12 c se u.2.2.2.2.1 ∧ kO 192 c ce u.2.2.2.2.2.1 ∧ kO 1 c wa u.2.2.2.2.2.2.1)))) (gO D (fun u : (Nat → Int32) × (Nat → Int32) × (Nat → Int32) × (Nat → Int32) × (Nat → Int32) × (Nat → Int32) × (Nat → Int32) × (Nat → Int32) × (Nat → Int32) => [(q 0, eMod T q (U + nI (wayO C (S (L.getD 0 0)) % 100))), (q 1, eI cy 192 sc), (q 5, eI cy 224 u.1), (q 6, eI cy 2 u.2.1), (q 9, eI cy 24 u.2.2.1), (q 10, eI cy 2 u.2.2.2.1), (q 11, eI cy 24 u.2.2.2.2.1), (q 12, eI cy 384 u.2.2.2.2.2.1), (q 13, eI cy 2 u.2.2.2.2.2.2.1), (q 14, eI cy 5 u.2.2.2.2.2.2.2.1), (q 16, eI cy 16 u.2.2.2.2.2.2.2.2)]) (va_A [(q 0, eMod T q U), (q 1, eI cy 192 sc), (q 5, eI cy 224 ca), (q 6, eI cy 2 zs), (q 9, eI cy 24 d), (q 10, eI cy 2 mn), (q 11, eI cy 24 se), (q 12, eI cy 384 ce), (q 13, eI cy 2 wa), (q 14, eI cy 5 fw), (q 16, eI cy 16 tl9)] sz)) (va_A [(q 0, eMod T q U), (q 1, eI cy 192 sc), (q 5, eI cy 224 ca), (q 6, eI cy 2 zs), (q 9, eI cy 24 d), (q 10, eI cy 2 mn), (q 11, eI cy 24 se), (q 12, eI cy 384 ce), (q 13, eI cy 2 wa), (q 14, eI cy 5 fw), (q 16, eI cy 16 tl9)] sz)) 0 0 (va_A [(q 0, eMod T q U), (q 1, eI cy 192 sc), (q 5, eI cy 224 ca), (q 6, eI cy 2 zs), (q 9, eI cy 24 d), (q 10, eI cy 2 mn), (q 11, eI cy 24 se), (q 12, eI cy 384 ce), (q 13, eI cy 2 wa), (q 14, eI cy 5 fw), (q 16, eI cy 16 tl9)] sz) := by
  refine gW_i (cc := cX4_write) (maxL := 7) (ty := .int) (by decide) rfl (Nat.le_of_ble_eq_true rfl) (fun v u hv => by rfl) ?_
  intro pp ee ss mm bw mt cd QQ AA ls hfx hP hG hD hA hret hl
  have hS : va_S AA ss.heap ss.heap [] := va_S.rf
  obtain ⟨H, eH⟩ : ∃ H, H = ss.heap := ⟨_, rfl⟩
  obtain ⟨locs, eL⟩ : ∃ L : List Loc, L = [] := ⟨_, rfl⟩
  have hP : va_P D vwCl [(q 0, eMod T q U), (q 1, eI cy 192 sc), (q 5, eI cy 224 ca), (q 6, eI cy 2 zs), (q 9, eI cy 24 d), (q 10, eI cy 2 mn), (q 11, eI cy 24 se), (q 12, eI cy 384 ce), (q 13, eI cy 2 wa), (q 14, eI cy 5 fw), (q 16, eI cy 16 tl9)] H := by rw [eH]; exact hP
  have hS : va_S AA ss.heap H locs := by rw [eH, eL]; exact hS
  have goal : ∀ X Y, X = H → Y = locs → W pp l ee ({ frames := 2, cells := 0, slots := 0, locals := 47 } : Room) ss mm ([.ref (q 0), .int (nI c), .int (nI left)] : List Value).toArray bw mt cd X Y 0 0 QQ (F0 mm 0 ls []) → W pp l ee ({ frames := 2, cells := 0, slots := 0, locals := 47 } : Room) ss mm ([.ref (q 0), .int (nI c), .int (nI left)] : List Value).toArray bw mt cd ss.heap [] 0 0 QQ (F0 mm 0 ls []) := fun X Y hX hY h => by rw [hX, hY, eH, eL] at h; exact h
  refine goal H locs rfl rfl ?_
  clear goal eH eL
  obtain ⟨hx, hb, hml, hown, hts, hlocks⟩ := hfx
  have hown : ss.vm.findClass RX4 = some mm.cls := hown
  have hl : lv_has ls 7 [(0, .ref (q 0)), (1, .int (nI c)), (2, .int (nI left))] := hl
  refine lv_aload_n hx hb dX4_write_0 rfl (lv_at hl 0 rfl) ?_
  refine va_get (D := D) (ci := 4) (v := .ref (q 9)) (C := RX4) (T := TX4) (N := 17) hx hb hts iX4_write_X4 hown hG.1 hP 0 rfl rfl 9 (by decide) (hts (.fieldLink RX4 35 "DirtyTilesModel" "dirty" "[I") (by decide +kernel)) (fun _ h9 => h9) rfl dX4_write_1 ?_
  refine lv_bipush (v := nI 12) hx hb dX4_write_4 (by decide) ?_
  refine lv_iload_n hx hb dX4_write_6 rfl (lv_at hl 1 rfl) ?_
  refine lv_imul hx hb dX4_write_7 ?_
  refine g_ti (y := nI (12 * c)) (pk_mul _ _) ?_
  refine g_iald hx hb hG hP 4 0 rfl rfl (k := 12 * c) (by omega) (by decide) dX4_write_8 ?_
  refine g_ti (y := nI (L.getD 0 0)) (hd 0 h0) ?_
  refine lv_istore_n (lv' := [(3, .int (nI (L.getD 0 0))), (0, .ref (q 0)), (1, .int (nI c)), (2, .int (nI left))]) hx hb dX4_write_9 rfl hl (by decide) rfl (fun ls hl => ?_)
  refine lv_aload_n hx hb dX4_write_10 rfl (lv_at hl 1 rfl) ?_
  refine lv_iload_n hx hb dX4_write_11 rfl (lv_at hl 0 rfl) ?_
  refine gc_Wv (wn := fun u => [(q 0, eMod T q U), (q 1, eI cy 192 sc), (q 5, eI cy 224 ca), (q 6, eI cy 2 zs), (q 9, eI cy 24 d), (q 10, eI cy 2 mn), (q 11, eI cy 24 se), (q 12, eI cy 384 ce), (q 13, eI cy 2 wa), (q 14, eI cy 5 fw), (q 16, eI cy 16 u)]) (wr := [(q 5, eI cy 224 ca), (q 6, eI cy 2 zs), (q 9, eI cy 24 d), (q 10, eI cy 2 mn), (q 11, eI cy 24 se), (q 12, eI cy 384 ce), (q 13, eI cy 2 wa), (q 14, eI cy 5 fw)]) (va_runV (As := [.int (nI (L.getD 0 0))]) (rest := []) ⟨hx, hb, hml, hown, hts⟩ (c_X4_look l D cy H.size q T U sc tl9 S (L.getD 0 0) (okD_get ho h0) hs) (cwV 1 hts gX4_write_X4_look rfl rfl rfl (by decide +kernel) ⟨Nat.le_of_ble_eq_true rfl, Nat.le_of_ble_eq_true rfl⟩) (gpVI (ci := 4) (q0 := 0) hG (hP.sub [0, 1, 10] rfl) (hD.sub [0, 1, 10] (by decide) rfl) rfl rfl) rfl rfl hl.1 rfl (lv_room (Nat.le_of_ble_eq_true rfl)) dX4_write_12 ⟨Nat.zero_le _, Nat.zero_le _⟩) hP hD hS hA [0, 1, 10] [2, 3, 4, 5, 6, 7, 8, 9] [8, 9, 0, 1, 2, 3, 4, 5, 6, 7, 10] rfl rfl (by decide) (by decide) (fun _ => rfl) (by decide) (fun tl3 H locs hw_12 hP hD hS => ?_)
  have hP : va_P D vwCl [(q 0, eMod T q U), (q 1, eI cy 192 sc), (q 5, eI cy 224 ca), (q 6, eI cy 2 zs), (q 9, eI cy 24 d), (q 10, eI cy 2 mn), (q 11, eI cy 24 se), (q 12, eI cy 384 ce), (q 13, eI cy 2 wa), (q 14, eI cy 5 fw), (q 16, eI cy 16 tl3)] H := hP
  have hD : va_D AA [(q 0, eMod T q U), (q 1, eI cy 192 sc), (q 5, eI cy 224 ca), (q 6, eI cy 2 zs), (q 9, eI cy 24 d), (q 10, eI cy 2 mn), (q 11, eI cy 24 se), (q 12, eI cy 384 ce), (q 13, eI cy 2 wa), (q 14, eI cy 5 fw), (q 16, eI cy 16 tl3)] := hD
  have hw_12 : hT (S (L.getD 0 0)) tl3 := hw_12
  refine lv_aload_n hx hb dX4_write_15 rfl (lv_at hl 1 rfl) ?_
  refine lv_iload_n hx hb dX4_write_16 rfl (lv_at hl 2 rfl) ?_
  refine gc_Si (va_runV (As := [.int (nI c)]) (rest := []) ⟨hx, hb, hml, hown, hts⟩ (c_X4_wayOf l D cy q T U ca zs tl3 C (S (L.getD 0 0)) c hc hca hsz hC hw_12) (cwV 1 hts gX4_write_X4_wayOf rfl rfl rfl (by decide +kernel) ⟨Nat.le_of_ble_eq_true rfl, Nat.le_of_ble_eq_true rfl⟩) (gpVR (ci := 4) (q0 := 0) hG (hP.sub [0, 2, 3, 10] rfl) rfl rfl) rfl rfl hl.1 rfl (lv_room (Nat.le_of_ble_eq_true rfl)) dX4_write_17 ⟨Nat.zero_le _, Nat.zero_le _⟩) ?_
  have z2 := wayO_le C (S (L.getD 0 0))
  refine lv_istore (lv' := [(4, .int (nI (wayO C (S (L.getD 0 0))))), (3, .int (nI (L.getD 0 0))), (0, .ref (q 0)), (1, .int (nI c)), (2, .int (nI left))]) hx hb dX4_write_20 hl (by decide) rfl (fun ls hl => ?_)
  refine lv_iload hx hb dX4_write_22 (lv_at hl 0 rfl) ?_
  refine lv_bipush (v := nI 100) hx hb dX4_write_24 (by decide) ?_
  refine lv_irem hx hb dX4_write_26 (nI_ne0 (by omega) (by omega)) ?_
  refine g_ti (y := nI ((wayO C (S (L.getD 0 0))) % 100)) (pk_rem (by omega) (by omega) (by omega)) ?_
  refine lv_iload_n hx hb dX4_write_27 rfl (lv_at hl 4 rfl) ?_
  refine lv_icmp_le (tgt := 33) hx hb dX4_write_28 (by decide) (fun c_28 => ?_) (fun c_28 => ?_)
  · skip
    have c_28 : ((wayO C (S (L.getD 0 0))) % 100) ≤ left := (nI_leI (a := ((wayO C (S (L.getD 0 0))) % 100)) (b := left) (by omega) (by omega)).mp c_28
    refine lv_aload_n hx hb dX4_write_33 rfl (lv_at hl 2 rfl) ?_
    refine lv_iload_n hx hb dX4_write_34 rfl (lv_at hl 3 rfl) ?_
    refine gc_Wv (wn := fun u => [(q 0, eMod T q U), (q 1, eI cy 192 sc), (q 5, eI cy 224 u.1), (q 6, eI cy 2 u.2), (q 9, eI cy 24 d), (q 10, eI cy 2 mn), (q 11, eI cy 24 se), (q 12, eI cy 384 ce), (q 13, eI cy 2 wa), (q 14, eI cy 5 fw), (q 16, eI cy 16 tl3)]) (wr := [(q 1, eI cy 192 sc), (q 9, eI cy 24 d), (q 10, eI cy 2 mn), (q 11, eI cy 24 se), (q 12, eI cy 384 ce), (q 13, eI cy 2 wa), (q 14, eI cy 5 fw)]) (va_runV (As := [.int (nI c)]) (rest := []) ⟨hx, hb, hml, hown, hts⟩ (c_X4_cache l D cy H.size q T U ca zs tl3 C (S (L.getD 0 0)) c hc hca hsz hC hw_12) (cwV 1 hts gX4_write_X4_cache rfl rfl rfl (by decide +kernel) ⟨Nat.le_of_ble_eq_true rfl, Nat.le_of_ble_eq_true rfl⟩) (gpVI (ci := 4) (q0 := 0) hG (hP.sub [0, 2, 3, 10] rfl) (hD.sub [0, 2, 3, 10] (by decide) rfl) rfl rfl) rfl rfl hl.1 rfl (lv_room (Nat.le_of_ble_eq_true rfl)) dX4_write_35 ⟨Nat.zero_le _, Nat.zero_le _⟩) hP hD hS hA [0, 2, 3, 10] [1, 4, 5, 6, 7, 8, 9] [7, 0, 8, 9, 1, 2, 3, 4, 5, 6, 10] rfl rfl (by decide) (by decide) (fun _ => rfl) (by decide) (fun u9 H locs hw_35 hP hD hS => ?_)
    obtain ⟨ca3, zs3⟩ := u9
    have hP : va_P D vwCl [(q 0, eMod T q U), (q 1, eI cy 192 sc), (q 5, eI cy 224 ca3), (q 6, eI cy 2 zs3), (q 9, eI cy 24 d), (q 10, eI cy 2 mn), (q 11, eI cy 24 se), (q 12, eI cy 384 ce), (q 13, eI cy 2 wa), (q 14, eI cy 5 fw), (q 16, eI cy 16 tl3)] H := hP
    have hD : va_D AA [(q 0, eMod T q U), (q 1, eI cy 192 sc), (q 5, eI cy 224 ca3), (q 6, eI cy 2 zs3), (q 9, eI cy 24 d), (q 10, eI cy 2 mn), (q 11, eI cy 24 se), (q 12, eI cy 384 ce), (q 13, eI cy 2 wa), (q 14, eI cy 5 fw), (q 16, eI cy 16 tl3)] := hD
    have hw_35 : hCo (brg C (S (L.getD 0 0))) ca3 c ∧ zs3 c = nI (brg C (S (L.getD 0 0))).length ∧ kO 112 c ca ca3 ∧ kO 1 c zs zs3 := hw_35
    refine lv_aload_n hx hb dX4_write_38 rfl (lv_at hl 2 rfl) ?_
    refine va_get (D := D) (ci := 4) (v := .ref (q 14)) (C := RX4) (T := TX4) (N := 17) hx hb hts iX4_write_X4 hown hG.1 hP 0 rfl rfl 14 (by decide) (hts (.fieldLink RX4 50 "DirtyTilesModel" "written" "[I") (by decide +kernel)) (fun _ h9 => h9) rfl dX4_write_39 ?_
    refine lv_iload hx hb dX4_write_42 (lv_at hl 0 rfl) ?_
    refine lv_bipush (v := nI 100) hx hb dX4_write_44 (by decide) ?_
    refine lv_idiv hx hb dX4_write_46 (nI_ne0 (by omega) (by omega)) ?_
    refine g_ti (y := nI ((wayO C (S (L.getD 0 0))) / 100)) (pk_div (by omega) (by omega) (by omega)) ?_
    refine lv_dup2_11 hx hb dX4_write_47 rfl rfl ?_
    refine g_iald hx hb hG hP 9 0 rfl rfl (k := (wayO C (S (L.getD 0 0))) / 100) (by omega) (by decide) dX4_write_48 ?_
    refine lv_iconst (v := nI 1) hx hb dX4_write_49 (by decide) ?_
    refine lv_iadd hx hb dX4_write_50 ?_
    refine g_iast hx hb hG hP hD hS 9 0 rfl rfl (k := (wayO C (S (L.getD 0 0))) / 100) (by omega) (by decide) dX4_write_51 (fun H locs hP hD hS => ?_)
    have hP : va_P D vwCl [(q 0, eMod T q U), (q 1, eI cy 192 sc), (q 5, eI cy 224 ca3), (q 6, eI cy 2 zs3), (q 9, eI cy 24 d), (q 10, eI cy 2 mn), (q 11, eI cy 24 se), (q 12, eI cy 384 ce), (q 13, eI cy 2 wa), (q 14, eI cy 5 (upd fw ((wayO C (S (L.getD 0 0))) / 100) ((fw ((wayO C (S (L.getD 0 0))) / 100)) + (nI 1)))), (q 16, eI cy 16 tl3)] H := hP
    have hD : va_D AA [(q 0, eMod T q U), (q 1, eI cy 192 sc), (q 5, eI cy 224 ca3), (q 6, eI cy 2 zs3), (q 9, eI cy 24 d), (q 10, eI cy 2 mn), (q 11, eI cy 24 se), (q 12, eI cy 384 ce), (q 13, eI cy 2 wa), (q 14, eI cy 5 (upd fw ((wayO C (S (L.getD 0 0))) / 100) ((fw ((wayO C (S (L.getD 0 0))) / 100)) + (nI 1)))), (q 16, eI cy 16 tl3)] := hD
    refine lv_aload_n hx hb dX4_write_52 rfl (lv_at hl 2 rfl) ?_
    refine lv_dup hx hb dX4_write_53 rfl ?_
    refine va_get (D := D) (ci := 4) (v := .int U) (C := RX4) (T := TX4) (N := 17) hx hb hts iX4_write_X4 hown hG.1 hP 0 rfl rfl 15 (by decide) (hts (.fieldLink RX4 128 "DirtyTilesModel" "units" "I") (by decide +kernel)) (fun _ h9 => h9) rfl dX4_write_54 ?_
    refine lv_iload hx hb dX4_write_57 (lv_at hl 0 rfl) ?_
    refine lv_bipush (v := nI 100) hx hb dX4_write_59 (by decide) ?_
    refine lv_irem hx hb dX4_write_61 (nI_ne0 (by omega) (by omega)) ?_
    refine g_ti (y := nI ((wayO C (S (L.getD 0 0))) % 100)) (pk_rem (by omega) (by omega) (by omega)) ?_
    refine lv_iadd hx hb dX4_write_62 ?_
    refine va_put (D := D) (ci := 4) (v := .int (U + (nI ((wayO C (S (L.getD 0 0))) % 100)))) (ty := .int) (C := RX4) (T := TX4) (N := 17) hx hb hts iX4_write_X4 tyX4 tyX4_ok nmX4 hown hG.1 hP hD hS 0 rfl rfl 15 (by decide) (hts (.fieldLink RX4 128 "DirtyTilesModel" "units" "I") (by decide +kernel)) (fun _ h9 => h9) rfl (by decide +kernel) rfl rfl (Nat.le_of_ble_eq_true rfl) dX4_write_63 (fun H locs hP hD hS => ?_)
    have hP : va_P D vwCl [(q 0, eMod T q (U + (nI ((wayO C (S (L.getD 0 0))) % 100)))), (q 1, eI cy 192 sc), (q 5, eI cy 224 ca3), (q 6, eI cy 2 zs3), (q 9, eI cy 24 d), (q 10, eI cy 2 mn), (q 11, eI cy 24 se), (q 12, eI cy 384 ce), (q 13, eI cy 2 wa), (q 14, eI cy 5 (upd fw ((wayO C (S (L.getD 0 0))) / 100) ((fw ((wayO C (S (L.getD 0 0))) / 100)) + (nI 1)))), (q 16, eI cy 16 tl3)] H := hP
    have hD : va_D AA [(q 0, eMod T q (U + (nI ((wayO C (S (L.getD 0 0))) % 100)))), (q 1, eI cy 192 sc), (q 5, eI cy 224 ca3), (q 6, eI cy 2 zs3), (q 9, eI cy 24 d), (q 10, eI cy 2 mn), (q 11, eI cy 24 se), (q 12, eI cy 384 ce), (q 13, eI cy 2 wa), (q 14, eI cy 5 (upd fw ((wayO C (S (L.getD 0 0))) / 100) ((fw ((wayO C (S (L.getD 0 0))) / 100)) + (nI 1)))), (q 16, eI cy 16 tl3)] := hD
    refine lv_bipush (v := nI 12) hx hb dX4_write_66 (by decide) ?_
    refine lv_iload_n hx hb dX4_write_68 rfl (lv_at hl 3 rfl) ?_
    refine lv_imul hx hb dX4_write_69 ?_
    refine g_ti (y := nI (12 * c)) (pk_mul _ _) ?_
    refine lv_aload_n hx hb dX4_write_70 rfl (lv_at hl 2 rfl) ?_
    refine va_get (D := D) (ci := 4) (v := .ref (q 13)) (C := RX4) (T := TX4) (N := 17) hx hb hts iX4_write_X4 hown hG.1 hP 0 rfl rfl 13 (by decide) (hts (.fieldLink RX4 47 "DirtyTilesModel" "waiting" "[I") (by decide +kernel)) (fun _ h9 => h9) rfl dX4_write_71 ?_
    refine lv_iload_n hx hb dX4_write_74 rfl (lv_at hl 3 rfl) ?_
    refine g_iald hx hb hG hP 8 0 rfl rfl (k := c) (by omega) (by decide) dX4_write_75 ?_
    refine g_ti (y := nI M.length) (hwa) ?_
    refine lv_iadd hx hb dX4_write_76 ?_
    refine g_ti (y := nI ((12 * c) + M.length)) (nI_add _ _) ?_
    refine lv_istore (lv' := [(5, .int (nI ((12 * c) + M.length))), (4, .int (nI (wayO C (S (L.getD 0 0))))), (3, .int (nI (L.getD 0 0))), (0, .ref (q 0)), (1, .int (nI c)), (2, .int (nI left))]) hx hb dX4_write_77 hl (by decide) rfl (fun ls hl => ?_)
    refine lv_aload_n hx hb dX4_write_79 rfl (lv_at hl 3 rfl) ?_
    refine va_get (D := D) (ci := 4) (v := .ref (q 11)) (C := RX4) (T := TX4) (N := 17) hx hb hts iX4_write_X4 hown hG.1 hP 0 rfl rfl 11 (by decide) (hts (.fieldLink RX4 41 "DirtyTilesModel" "sent" "[I") (by decide +kernel)) (fun _ h9 => h9) rfl dX4_write_80 ?_
    refine lv_iload hx hb dX4_write_83 (lv_at hl 0 rfl) ?_
    refine lv_iload_n hx hb dX4_write_85 rfl (lv_at hl 2 rfl) ?_
    refine g_iast hx hb hG hP hD hS 6 0 rfl rfl (k := (12 * c) + M.length) (by omega) (by decide) dX4_write_86 (fun H locs hP hD hS => ?_)
    have hP : va_P D vwCl [(q 0, eMod T q (U + (nI ((wayO C (S (L.getD 0 0))) % 100)))), (q 1, eI cy 192 sc), (q 5, eI cy 224 ca3), (q 6, eI cy 2 zs3), (q 9, eI cy 24 d), (q 10, eI cy 2 mn), (q 11, eI cy 24 (upd se ((12 * c) + M.length) (nI (L.getD 0 0)))), (q 12, eI cy 384 ce), (q 13, eI cy 2 wa), (q 14, eI cy 5 (upd fw ((wayO C (S (L.getD 0 0))) / 100) ((fw ((wayO C (S (L.getD 0 0))) / 100)) + (nI 1)))), (q 16, eI cy 16 tl3)] H := hP
    have hD : va_D AA [(q 0, eMod T q (U + (nI ((wayO C (S (L.getD 0 0))) % 100)))), (q 1, eI cy 192 sc), (q 5, eI cy 224 ca3), (q 6, eI cy 2 zs3), (q 9, eI cy 24 d), (q 10, eI cy 2 mn), (q 11, eI cy 24 (upd se ((12 * c) + M.length) (nI (L.getD 0 0)))), (q 12, eI cy 384 ce), (q 13, eI cy 2 wa), (q 14, eI cy 5 (upd fw ((wayO C (S (L.getD 0 0))) / 100) ((fw ((wayO C (S (L.getD 0 0))) / 100)) + (nI 1)))), (q 16, eI cy 16 tl3)] := hD
    refine lv_iconst (v := nI 0) hx hb dX4_write_87 (by decide) ?_
    refine lv_istore (lv' := [(6, .int (nI 0)), (5, .int (nI ((12 * c) + M.length))), (4, .int (nI (wayO C (S (L.getD 0 0))))), (3, .int (nI (L.getD 0 0))), (0, .ref (q 0)), (1, .int (nI c)), (2, .int (nI left))]) hx hb dX4_write_88 hl (by decide) rfl (fun ls hl => ?_)
    have loop_90 : ∀ (n9 : Nat) (k : Nat) (g : Nat → Int32), 16 - k < n9 → (k ≤ 16) → ((∀ j, j < k → g (16 * (12 * c + M.length) + j) = nI (cel (S (L.getD 0 0)) j)) ∧ (∀ j, ¬ (16 * (12 * c + M.length) ≤ j ∧ j < 16 * (12 * c + M.length) + 16) → g j = ce j)) → ∀ (H : Heap) (locs : List Loc) (ls : Array Slot), va_P D vwCl [(q 0, eMod T q (U + nI (wayO C (S (L.getD 0 0)) % 100))), (q 1, eI cy 192 sc), (q 5, eI cy 224 ca3), (q 6, eI cy 2 zs3), (q 9, eI cy 24 d), (q 10, eI cy 2 mn), (q 11, eI cy 24 (upd se (12 * c + M.length) (nI (L.getD 0 0)))), (q 12, eI cy 384 g), (q 13, eI cy 2 wa), (q 14, eI cy 5 (upd fw (wayO C (S (L.getD 0 0)) / 100) (fw (wayO C (S (L.getD 0 0)) / 100) + nI 1))), (q 16, eI cy 16 tl3)] H → va_D AA [(q 0, eMod T q (U + nI (wayO C (S (L.getD 0 0)) % 100))), (q 1, eI cy 192 sc), (q 5, eI cy 224 ca3), (q 6, eI cy 2 zs3), (q 9, eI cy 24 d), (q 10, eI cy 2 mn), (q 11, eI cy 24 (upd se (12 * c + M.length) (nI (L.getD 0 0)))), (q 12, eI cy 384 g), (q 13, eI cy 2 wa), (q 14, eI cy 5 (upd fw (wayO C (S (L.getD 0 0)) / 100) (fw (wayO C (S (L.getD 0 0)) / 100) + nI 1))), (q 16, eI cy 16 tl3)] → va_S AA ss.heap H locs → lv_has ls 7 [(0, .ref (q 0)), (1, .int (nI c)), (2, .int (nI left)), (3, .int (nI (L.getD 0 0))), (4, .int (nI (wayO C (S (L.getD 0 0))))), (5, .int (nI (12 * c + M.length))), (6, .int (nI k))] → W pp l ee ({ frames := 2, cells := 0, slots := 0, locals := 47 } : Room) ss mm ([.ref (q 0), .int (nI c), .int (nI left)] : List Value).toArray bw mt cd H locs 0 0 QQ (F0 mm 90 ls []) := by
      intro n9
      induction n9 with
      | zero => intro k g h9; exact absurd h9 (Nat.not_lt_zero _)
      | succ n9 ih_90 =>
        intro k g hm_90 hk hg H locs ls hP hD hS hl
        refine lv_iload hx hb dX4_write_90 (lv_at hl 6 rfl) ?_
        refine lv_bipush (v := nI 16) hx hb dX4_write_92 (by decide) ?_
        refine lv_icmp_ge (tgt := 123) hx hb dX4_write_94 (by decide) (fun c_94 => ?_) (fun c_94 => ?_)
        · skip
          have c_94 : 16 ≤ k := (nI_leI (a := 16) (b := k) (by omega) (by omega)).mp c_94
          refine lv_aload_n hx hb dX4_write_123 rfl (lv_at hl 0 rfl) ?_
          refine va_get (D := D) (ci := 4) (v := .ref (q 13)) (C := RX4) (T := TX4) (N := 17) hx hb hts iX4_write_X4 hown hG.1 hP 0 rfl rfl 13 (by decide) (hts (.fieldLink RX4 47 "DirtyTilesModel" "waiting" "[I") (by decide +kernel)) (fun _ h9 => h9) rfl dX4_write_124 ?_
          refine lv_iload_n hx hb dX4_write_127 rfl (lv_at hl 1 rfl) ?_
          refine lv_dup2_11 hx hb dX4_write_128 rfl rfl ?_
          refine g_iald hx hb hG hP 8 0 rfl rfl (k := c) (by omega) (by decide) dX4_write_129 ?_
          refine g_ti (y := nI M.length) (hwa) ?_
          refine lv_iconst (v := nI 1) hx hb dX4_write_130 (by decide) ?_
          refine lv_iadd hx hb dX4_write_131 ?_
          refine g_ti (y := nI (M.length + 1)) (nI_add _ _) ?_
          refine g_iast hx hb hG hP hD hS 8 0 rfl rfl (k := c) (by omega) (by decide) dX4_write_132 (fun H locs hP hD hS => ?_)
          have hP : va_P D vwCl [(q 0, eMod T q (U + nI (wayO C (S (L.getD 0 0)) % 100))), (q 1, eI cy 192 sc), (q 5, eI cy 224 ca3), (q 6, eI cy 2 zs3), (q 9, eI cy 24 d), (q 10, eI cy 2 mn), (q 11, eI cy 24 (upd se (12 * c + M.length) (nI (L.getD 0 0)))), (q 12, eI cy 384 g), (q 13, eI cy 2 (upd wa c (nI (M.length + 1)))), (q 14, eI cy 5 (upd fw (wayO C (S (L.getD 0 0)) / 100) (fw (wayO C (S (L.getD 0 0)) / 100) + nI 1))), (q 16, eI cy 16 tl3)] H := hP
          have hD : va_D AA [(q 0, eMod T q (U + nI (wayO C (S (L.getD 0 0)) % 100))), (q 1, eI cy 192 sc), (q 5, eI cy 224 ca3), (q 6, eI cy 2 zs3), (q 9, eI cy 24 d), (q 10, eI cy 2 mn), (q 11, eI cy 24 (upd se (12 * c + M.length) (nI (L.getD 0 0)))), (q 12, eI cy 384 g), (q 13, eI cy 2 (upd wa c (nI (M.length + 1)))), (q 14, eI cy 5 (upd fw (wayO C (S (L.getD 0 0)) / 100) (fw (wayO C (S (L.getD 0 0)) / 100) + nI 1))), (q 16, eI cy 16 tl3)] := hD
          refine lv_aload_n hx hb dX4_write_133 rfl (lv_at hl 0 rfl) ?_
          refine va_get (D := D) (ci := 4) (v := .ref (q 10)) (C := RX4) (T := TX4) (N := 17) hx hb hts iX4_write_X4 hown hG.1 hP 0 rfl rfl 10 (by decide) (hts (.fieldLink RX4 38 "DirtyTilesModel" "many" "[I") (by decide +kernel)) (fun _ h9 => h9) rfl dX4_write_134 ?_
          refine lv_iload_n hx hb dX4_write_137 rfl (lv_at hl 1 rfl) ?_
          refine lv_dup2_11 hx hb dX4_write_138 rfl rfl ?_
          refine g_iald hx hb hG hP 5 0 rfl rfl (k := c) (by omega) (by decide) dX4_write_139 ?_
          refine g_ti (y := nI L.length) (hmn) ?_
          refine lv_iconst (v := nI 1) hx hb dX4_write_140 (by decide) ?_
          refine lv_isub hx hb dX4_write_141 ?_
          refine g_ti (y := nI (L.length - 1)) (pk_sub (by omega)) ?_
          refine g_iast hx hb hG hP hD hS 5 0 rfl rfl (k := c) (by omega) (by decide) dX4_write_142 (fun H locs hP hD hS => ?_)
          have hP : va_P D vwCl [(q 0, eMod T q (U + nI (wayO C (S (L.getD 0 0)) % 100))), (q 1, eI cy 192 sc), (q 5, eI cy 224 ca3), (q 6, eI cy 2 zs3), (q 9, eI cy 24 d), (q 10, eI cy 2 (upd mn c (nI (L.length - 1)))), (q 11, eI cy 24 (upd se (12 * c + M.length) (nI (L.getD 0 0)))), (q 12, eI cy 384 g), (q 13, eI cy 2 (upd wa c (nI (M.length + 1)))), (q 14, eI cy 5 (upd fw (wayO C (S (L.getD 0 0)) / 100) (fw (wayO C (S (L.getD 0 0)) / 100) + nI 1))), (q 16, eI cy 16 tl3)] H := hP
          have hD : va_D AA [(q 0, eMod T q (U + nI (wayO C (S (L.getD 0 0)) % 100))), (q 1, eI cy 192 sc), (q 5, eI cy 224 ca3), (q 6, eI cy 2 zs3), (q 9, eI cy 24 d), (q 10, eI cy 2 (upd mn c (nI (L.length - 1)))), (q 11, eI cy 24 (upd se (12 * c + M.length) (nI (L.getD 0 0)))), (q 12, eI cy 384 g), (q 13, eI cy 2 (upd wa c (nI (M.length + 1)))), (q 14, eI cy 5 (upd fw (wayO C (S (L.getD 0 0)) / 100) (fw (wayO C (S (L.getD 0 0)) / 100) + nI 1))), (q 16, eI cy 16 tl3)] := hD
          refine lv_iconst (v := nI 0) hx hb dX4_write_143 (by decide) ?_
          refine lv_istore (lv' := [(6, .int (nI 0)), (0, .ref (q 0)), (1, .int (nI c)), (2, .int (nI left)), (3, .int (nI (L.getD 0 0))), (4, .int (nI (wayO C (S (L.getD 0 0))))), (5, .int (nI (12 * c + M.length)))]) hx hb dX4_write_144 hl (by decide) rfl (fun ls hl => ?_)
          have loop_146 : ∀ (n9 : Nat) (j : Nat) (g2 : Nat → Int32), L.length - 1 - j < n9 → (j ≤ L.length - 1) → (∀ i, g2 i = if 12 * c ≤ i ∧ i < 12 * c + j then d (i + 1) else d i) → ∀ (H : Heap) (locs : List Loc) (ls : Array Slot), va_P D vwCl [(q 0, eMod T q (U + nI (wayO C (S (L.getD 0 0)) % 100))), (q 1, eI cy 192 sc), (q 5, eI cy 224 ca3), (q 6, eI cy 2 zs3), (q 9, eI cy 24 g2), (q 10, eI cy 2 (upd mn c (nI (L.length - 1)))), (q 11, eI cy 24 (upd se (12 * c + M.length) (nI (L.getD 0 0)))), (q 12, eI cy 384 g), (q 13, eI cy 2 (upd wa c (nI (M.length + 1)))), (q 14, eI cy 5 (upd fw (wayO C (S (L.getD 0 0)) / 100) (fw (wayO C (S (L.getD 0 0)) / 100) + nI 1))), (q 16, eI cy 16 tl3)] H → va_D AA [(q 0, eMod T q (U + nI (wayO C (S (L.getD 0 0)) % 100))), (q 1, eI cy 192 sc), (q 5, eI cy 224 ca3), (q 6, eI cy 2 zs3), (q 9, eI cy 24 g2), (q 10, eI cy 2 (upd mn c (nI (L.length - 1)))), (q 11, eI cy 24 (upd se (12 * c + M.length) (nI (L.getD 0 0)))), (q 12, eI cy 384 g), (q 13, eI cy 2 (upd wa c (nI (M.length + 1)))), (q 14, eI cy 5 (upd fw (wayO C (S (L.getD 0 0)) / 100) (fw (wayO C (S (L.getD 0 0)) / 100) + nI 1))), (q 16, eI cy 16 tl3)] → va_S AA ss.heap H locs → lv_has ls 7 [(0, .ref (q 0)), (1, .int (nI c)), (2, .int (nI left)), (4, .int (nI (wayO C (S (L.getD 0 0))))), (6, .int (nI j))] → W pp l ee ({ frames := 2, cells := 0, slots := 0, locals := 47 } : Room) ss mm ([.ref (q 0), .int (nI c), .int (nI left)] : List Value).toArray bw mt cd H locs 0 0 QQ (F0 mm 146 ls []) := by
            intro n9
            induction n9 with
            | zero => intro j g2 h9; exact absurd h9 (Nat.not_lt_zero _)
            | succ n9 ih_146 =>
              intro j g2 hm_146 hj hg2 H locs ls hP hD hS hl
              refine lv_iload hx hb dX4_write_146 (lv_at hl 4 rfl) ?_
              refine lv_aload_n hx hb dX4_write_148 rfl (lv_at hl 0 rfl) ?_
              refine va_get (D := D) (ci := 4) (v := .ref (q 10)) (C := RX4) (T := TX4) (N := 17) hx hb hts iX4_write_X4 hown hG.1 hP 0 rfl rfl 10 (by decide) (hts (.fieldLink RX4 38 "DirtyTilesModel" "many" "[I") (by decide +kernel)) (fun _ h9 => h9) rfl dX4_write_149 ?_
              refine lv_iload_n hx hb dX4_write_152 rfl (lv_at hl 1 rfl) ?_
              refine g_iald hx hb hG hP 5 0 rfl rfl (k := c) (by omega) (by decide) dX4_write_153 ?_
              refine g_ti (y := nI (L.length - 1)) (pk_us) ?_
              refine lv_icmp_ge (tgt := 189) hx hb dX4_write_154 (by decide) (fun c_154 => ?_) (fun c_154 => ?_)
              · skip
                have c_154 : (L.length - 1) ≤ j := (nI_leI (a := (L.length - 1)) (b := j) (by omega) (by omega)).mp c_154
                refine lv_iload_n hx hb dX4_write_189 rfl (lv_at hl 2 rfl) ?_
                refine lv_iload hx hb dX4_write_190 (lv_at hl 3 rfl) ?_
                refine lv_bipush (v := nI 100) hx hb dX4_write_192 (by decide) ?_
                refine lv_irem hx hb dX4_write_194 (nI_ne0 (by omega) (by omega)) ?_
                refine g_ti (y := nI ((wayO C (S (L.getD 0 0))) % 100)) (pk_rem (by omega) (by omega) (by omega)) ?_
                refine lv_isub hx hb dX4_write_195 ?_
                refine g_ti (y := nI (left - ((wayO C (S (L.getD 0 0))) % 100))) (pk_sub (by omega)) ?_
                have e9 : j = L.length - 1 := by omega
                rw [e9] at hg2
                have k16 : k = 16 := by omega
                rw [k16] at hg
                exact hret _ _ _ _ _ ⟨ca3, zs3, g2, upd mn c (nI (L.length - 1)), upd se (12 * c + M.length) (nI (L.getD 0 0)), g, upd wa c (nI (M.length + 1)), upd fw (wayO C (S (L.getD 0 0)) / 100) (fw (wayO C (S (L.getD 0 0)) / 100) + nI 1), tl3⟩ dX4_write_196 (⟨rfl, rfl, hw_35, ⟨hNo_drop hd hg2, pk_us, (fun i hi => by show g2 i = d i; rw [hg2 i, if_neg (by omega)]), kO_up (kO_rf _ _ _) ⟨by omega, by omega⟩⟩, ⟨hMo_app hM9 hg.1 hg.2, pk_us, kO_up (kO_rf _ _ _) ⟨by omega, by omega⟩, (fun i hi => hg.2 i (by omega)), kO_up (kO_rf _ _ _) ⟨by omega, by omega⟩⟩⟩) (hP.sub [0, 1, 2, 3, 4, 5, 6, 7, 8, 9, 10] rfl) (hD.sub [0, 1, 2, 3, 4, 5, 6, 7, 8, 9, 10] (by decide) rfl) hS
              · skip
                have c_154 : ¬ (L.length - 1) ≤ j := fun z => c_154 ((nI_leI (a := (L.length - 1)) (b := j) (by omega) (by omega)).mpr z)
                refine lv_aload_n hx hb dX4_write_157 rfl (lv_at hl 0 rfl) ?_
                refine va_get (D := D) (ci := 4) (v := .ref (q 9)) (C := RX4) (T := TX4) (N := 17) hx hb hts iX4_write_X4 hown hG.1 hP 0 rfl rfl 9 (by decide) (hts (.fieldLink RX4 35 "DirtyTilesModel" "dirty" "[I") (by decide +kernel)) (fun _ h9 => h9) rfl dX4_write_158 ?_
                refine lv_bipush (v := nI 12) hx hb dX4_write_161 (by decide) ?_
                refine lv_iload_n hx hb dX4_write_163 rfl (lv_at hl 1 rfl) ?_
                refine lv_imul hx hb dX4_write_164 ?_
                refine g_ti (y := nI (12 * c)) (pk_mul _ _) ?_
                refine lv_iload hx hb dX4_write_165 (lv_at hl 4 rfl) ?_
                refine lv_iadd hx hb dX4_write_167 ?_
                refine g_ti (y := nI ((12 * c) + j)) (nI_add _ _) ?_
                refine lv_aload_n hx hb dX4_write_168 rfl (lv_at hl 0 rfl) ?_
                refine va_get (D := D) (ci := 4) (v := .ref (q 9)) (C := RX4) (T := TX4) (N := 17) hx hb hts iX4_write_X4 hown hG.1 hP 0 rfl rfl 9 (by decide) (hts (.fieldLink RX4 35 "DirtyTilesModel" "dirty" "[I") (by decide +kernel)) (fun _ h9 => h9) rfl dX4_write_169 ?_
                refine lv_bipush (v := nI 12) hx hb dX4_write_172 (by decide) ?_
                refine lv_iload_n hx hb dX4_write_174 rfl (lv_at hl 1 rfl) ?_
                refine lv_imul hx hb dX4_write_175 ?_
                refine g_ti (y := nI (12 * c)) (pk_mul _ _) ?_
                refine lv_iload hx hb dX4_write_176 (lv_at hl 4 rfl) ?_
                refine lv_iadd hx hb dX4_write_178 ?_
                refine g_ti (y := nI ((12 * c) + j)) (nI_add _ _) ?_
                refine lv_iconst (v := nI 1) hx hb dX4_write_179 (by decide) ?_
                refine lv_iadd hx hb dX4_write_180 ?_
                refine g_ti (y := nI (((12 * c) + j) + 1)) (nI_add _ _) ?_
                refine g_iald hx hb hG hP 4 0 rfl rfl (k := ((12 * c) + j) + 1) (by omega) (by decide) dX4_write_181 ?_
                refine g_iast hx hb hG hP hD hS 4 0 rfl rfl (k := (12 * c) + j) (by omega) (by decide) dX4_write_182 (fun H locs hP hD hS => ?_)
                have hP : va_P D vwCl [(q 0, eMod T q (U + nI (wayO C (S (L.getD 0 0)) % 100))), (q 1, eI cy 192 sc), (q 5, eI cy 224 ca3), (q 6, eI cy 2 zs3), (q 9, eI cy 24 (upd g2 ((12 * c) + j) (g2 (((12 * c) + j) + 1)))), (q 10, eI cy 2 (upd mn c (nI (L.length - 1)))), (q 11, eI cy 24 (upd se (12 * c + M.length) (nI (L.getD 0 0)))), (q 12, eI cy 384 g), (q 13, eI cy 2 (upd wa c (nI (M.length + 1)))), (q 14, eI cy 5 (upd fw (wayO C (S (L.getD 0 0)) / 100) (fw (wayO C (S (L.getD 0 0)) / 100) + nI 1))), (q 16, eI cy 16 tl3)] H := hP
                have hD : va_D AA [(q 0, eMod T q (U + nI (wayO C (S (L.getD 0 0)) % 100))), (q 1, eI cy 192 sc), (q 5, eI cy 224 ca3), (q 6, eI cy 2 zs3), (q 9, eI cy 24 (upd g2 ((12 * c) + j) (g2 (((12 * c) + j) + 1)))), (q 10, eI cy 2 (upd mn c (nI (L.length - 1)))), (q 11, eI cy 24 (upd se (12 * c + M.length) (nI (L.getD 0 0)))), (q 12, eI cy 384 g), (q 13, eI cy 2 (upd wa c (nI (M.length + 1)))), (q 14, eI cy 5 (upd fw (wayO C (S (L.getD 0 0)) / 100) (fw (wayO C (S (L.getD 0 0)) / 100) + nI 1))), (q 16, eI cy 16 tl3)] := hD
                refine lv_iinc (v := nI (j + 1)) (lv' := [(6, .int (nI (j + 1))), (0, .ref (q 0)), (1, .int (nI c)), (2, .int (nI left)), (4, .int (nI (wayO C (S (L.getD 0 0)))))]) hx hb dX4_write_183 hl (k := 4) rfl (nI_1 _) (by decide) rfl (fun ls hl => ?_)
                refine lv_goto (tgt := 146) hx hb dX4_write_186 (by decide) ?_
                exact ih_146 (j + 1) (upd g2 ((12 * c) + j) (g2 (((12 * c) + j) + 1))) (by omega) (by omega) (drop_step hg2) _ _ _ (hP.sub [0, 1, 2, 3, 4, 5, 6, 7, 8, 9, 10] rfl) (hD.sub [0, 1, 2, 3, 4, 5, 6, 7, 8, 9, 10] (by decide) rfl) hS (lv_sub hl [1, 2, 3, 4, 0] rfl)
          exact loop_146 ((L.length - 1 - 0) + 1) 0 d (Nat.lt_succ_self _) (by omega) (fun i => (if_neg (by omega)).symm) _ _ _ (hP.sub [0, 1, 2, 3, 4, 5, 6, 7, 8, 9, 10] rfl) (hD.sub [0, 1, 2, 3, 4, 5, 6, 7, 8, 9, 10] (by decide) rfl) hS (lv_sub hl [1, 2, 3, 5, 0] rfl)
        · skip
          have c_94 : ¬ 16 ≤ k := fun z => c_94 ((nI_leI (a := 16) (b := k) (by omega) (by omega)).mpr z)
          refine lv_aload_n hx hb dX4_write_97 rfl (lv_at hl 0 rfl) ?_
          refine va_get (D := D) (ci := 4) (v := .ref (q 12)) (C := RX4) (T := TX4) (N := 17) hx hb hts iX4_write_X4 hown hG.1 hP 0 rfl rfl 12 (by decide) (hts (.fieldLink RX4 44 "DirtyTilesModel" "cells" "[I") (by decide +kernel)) (fun _ h9 => h9) rfl dX4_write_98 ?_
          refine lv_bipush (v := nI 16) hx hb dX4_write_101 (by decide) ?_
          refine lv_iload hx hb dX4_write_103 (lv_at hl 5 rfl) ?_
          refine lv_imul hx hb dX4_write_105 ?_
          refine g_ti (y := nI (16 * (12 * c + M.length))) (pk_mul _ _) ?_
          refine lv_iload hx hb dX4_write_106 (lv_at hl 6 rfl) ?_
          refine lv_iadd hx hb dX4_write_108 ?_
          refine g_ti (y := nI ((16 * (12 * c + M.length)) + k)) (nI_add _ _) ?_
          refine lv_aload_n hx hb dX4_write_109 rfl (lv_at hl 0 rfl) ?_
          refine va_get (D := D) (ci := 4) (v := .ref (q 16)) (C := RX4) (T := TX4) (N := 17) hx hb hts iX4_write_X4 hown hG.1 hP 0 rfl rfl 16 (by decide) (hts (.fieldLink RX4 53 "DirtyTilesModel" "tile" "[I") (by decide +kernel)) (fun _ h9 => h9) rfl dX4_write_110 ?_
          refine lv_iload hx hb dX4_write_113 (lv_at hl 6 rfl) ?_
          refine g_iald hx hb hG hP 10 0 rfl rfl (k := k) (by omega) (by decide) dX4_write_115 ?_
          refine g_ti (y := nI (cel (S (L.getD 0 0)) k)) (hw_12 k (by omega)) ?_
          refine g_iast hx hb hG hP hD hS 7 0 rfl rfl (k := (16 * (12 * c + M.length)) + k) (by omega) (by decide) dX4_write_116 (fun H locs hP hD hS => ?_)
          have hP : va_P D vwCl [(q 0, eMod T q (U + nI (wayO C (S (L.getD 0 0)) % 100))), (q 1, eI cy 192 sc), (q 5, eI cy 224 ca3), (q 6, eI cy 2 zs3), (q 9, eI cy 24 d), (q 10, eI cy 2 mn), (q 11, eI cy 24 (upd se (12 * c + M.length) (nI (L.getD 0 0)))), (q 12, eI cy 384 (upd g ((16 * (12 * c + M.length)) + k) (nI (cel (S (L.getD 0 0)) k)))), (q 13, eI cy 2 wa), (q 14, eI cy 5 (upd fw (wayO C (S (L.getD 0 0)) / 100) (fw (wayO C (S (L.getD 0 0)) / 100) + nI 1))), (q 16, eI cy 16 tl3)] H := hP
          have hD : va_D AA [(q 0, eMod T q (U + nI (wayO C (S (L.getD 0 0)) % 100))), (q 1, eI cy 192 sc), (q 5, eI cy 224 ca3), (q 6, eI cy 2 zs3), (q 9, eI cy 24 d), (q 10, eI cy 2 mn), (q 11, eI cy 24 (upd se (12 * c + M.length) (nI (L.getD 0 0)))), (q 12, eI cy 384 (upd g ((16 * (12 * c + M.length)) + k) (nI (cel (S (L.getD 0 0)) k)))), (q 13, eI cy 2 wa), (q 14, eI cy 5 (upd fw (wayO C (S (L.getD 0 0)) / 100) (fw (wayO C (S (L.getD 0 0)) / 100) + nI 1))), (q 16, eI cy 16 tl3)] := hD
          refine lv_iinc (v := nI (k + 1)) (lv' := [(6, .int (nI (k + 1))), (0, .ref (q 0)), (1, .int (nI c)), (2, .int (nI left)), (3, .int (nI (L.getD 0 0))), (4, .int (nI (wayO C (S (L.getD 0 0))))), (5, .int (nI (12 * c + M.length)))]) hx hb dX4_write_117 hl (k := 6) rfl (nI_1 _) (by decide) rfl (fun ls hl => ?_)
          refine lv_goto (tgt := 90) hx hb dX4_write_120 (by decide) ?_
          exact ih_90 (k + 1) (upd g ((16 * (12 * c + M.length)) + k) (nI (cel (S (L.getD 0 0)) k))) (by omega) (by omega) ⟨put_row (v := fun j => nI (cel (S (L.getD 0 0)) j)) hg.1 rfl, out_step hg.2 (by omega)⟩ _ _ _ (hP.sub [0, 1, 2, 3, 4, 5, 6, 7, 8, 9, 10] rfl) (hD.sub [0, 1, 2, 3, 4, 5, 6, 7, 8, 9, 10] (by decide) rfl) hS (lv_sub hl [1, 2, 3, 4, 5, 6, 0] rfl)
    exact loop_90 ((16 - 0) + 1) 0 ce (Nat.lt_succ_self _) (by omega) ⟨fun j hj => absurd hj (Nat.not_lt_zero j), fun _ _ => rfl⟩ _ _ _ (hP.sub [0, 1, 2, 3, 4, 5, 6, 7, 8, 9, 10] rfl) (hD.sub [0, 1, 2, 3, 4, 5, 6, 7, 8, 9, 10] (by decide) rfl) hS (lv_sub hl [4, 5, 6, 3, 2, 1, 0] rfl)
  · skip
    have c_28 : ¬ ((wayO C (S (L.getD 0 0))) % 100) ≤ left := fun z => c_28 ((nI_leI (a := ((wayO C (S (L.getD 0 0))) % 100)) (b := left) (by omega) (by omega)).mpr z)
    exact absurd hfit c_28
set_option maxHeartbeats 4000000 in
set_option maxRecDepth 100000 in
theorem c_X4_ask (l : Launch) (D : va_G) (cy : Nat → ClassId) (sz : Nat) (q : Nat → Nat) (T U : Int32) (sc is : Nat → Int32) (ca zs d mn se ce wa fw tl9 : Nat → Int32) (S : Nat → Int64) (L : List Nat) (C : List Int64) (J : Prop) (i b : Nat) (hi : i < 2) (hj : is i = gb (J)) (hJ : J) (hs : hS S sc) (hca : hCo C ca i) (hsz : zs i = nI C.length) (hC : C.length ≤ 6) (hd : hNo L d i) (hmn : mn i = nI L.length) (ho : okD L) (hwa : wa i = nI 0) (hb9 : b ≤ 300) : Met l yX4_ask wsX4_ask ({ frames := 3, cells := 0, slots := 0, locals := 73 } : Room) (va_Pc [.ref (q 0), .int (nI i), .int (nI b)] (gI D (gT cy) [(q 0, eMod T q U), (q 1, eI cy 192 sc), (q 3, eZ cy 2 is), (q 5, eI cy 224 ca), (q 6, eI cy 2 zs), (q 9, eI cy 24 d), (q 10, eI cy 2 mn), (q 11, eI cy 24 se), (q 12, eI cy 384 ce), (q 13, eI cy 2 wa), (q 14, eI cy 5 fw), (q 16, eI cy 16 tl9)] sz)) (va_Qi (fun (r9 : Int32) (u : Nat × (List Nat) × (List (Nat × Int64)) × (List Int64) × (Nat → Int32) × (Nat → Int32) × (Nat → Int32) × (Nat → Int32) × (Nat → Int32) × (Nat → Int32) × (Nat → Int32) × (Nat → Int32) × (Nat → Int32)) => r9 = nI u.2.2.1.length ∧ ((askF S L [] C b fw = (u.2.1, u.2.2.1, u.2.2.2.1, u.1, u.2.2.2.2.2.2.2.2.2.2.2.1) ∧ (hCo u.2.2.2.1 u.2.2.2.2.1 i ∧ u.2.2.2.2.2.1 i = nI u.2.2.2.1.length ∧ u.2.2.2.1.length ≤ 6 ∧ kO 112 i ca u.2.2.2.2.1 ∧ kO 1 i zs u.2.2.2.2.2.1) ∧ (hNo u.2.1 u.2.2.2.2.2.2.1 i ∧ u.2.2.2.2.2.2.2.1 i = nI u.2.1.length ∧ okD u.2.1 ∧ kO 12 i d u.2.2.2.2.2.2.1 ∧ kO 1 i mn u.2.2.2.2.2.2.2.1) ∧ (hMo u.2.2.1 u.2.2.2.2.2.2.2.2.1 u.2.2.2.2.2.2.2.2.2.1 i ∧ u.2.2.2.2.2.2.2.2.2.2.1 i = nI u.2.2.1.length ∧ u.2.2.1.length + u.2.1.length ≤ 12 ∧ kO 12 i se u.2.2.2.2.2.2.2.2.1 ∧ kO 192 i ce u.2.2.2.2.2.2.2.2.2.1 ∧ kO 1 i wa u.2.2.2.2.2.2.2.2.2.2.1)))) (gO D (fun u : Nat × (List Nat) × (List (Nat × Int64)) × (List Int64) × (Nat → Int32) × (Nat → Int32) × (Nat → Int32) × (Nat → Int32) × (Nat → Int32) × (Nat → Int32) × (Nat → Int32) × (Nat → Int32) × (Nat → Int32) => [(q 0, eMod (nI 0) q (U + nI (b - u.1))), (q 1, eI cy 192 sc), (q 3, eZ cy 2 is), (q 5, eI cy 224 u.2.2.2.2.1), (q 6, eI cy 2 u.2.2.2.2.2.1), (q 9, eI cy 24 u.2.2.2.2.2.2.1), (q 10, eI cy 2 u.2.2.2.2.2.2.2.1), (q 11, eI cy 24 u.2.2.2.2.2.2.2.2.1), (q 12, eI cy 384 u.2.2.2.2.2.2.2.2.2.1), (q 13, eI cy 2 u.2.2.2.2.2.2.2.2.2.2.1), (q 14, eI cy 5 u.2.2.2.2.2.2.2.2.2.2.2.1), (q 16, eI cy 16 u.2.2.2.2.2.2.2.2.2.2.2.2)]) (va_A [(q 0, eMod T q U), (q 1, eI cy 192 sc), (q 3, eZ cy 2 is), (q 5, eI cy 224 ca), (q 6, eI cy 2 zs), (q 9, eI cy 24 d), (q 10, eI cy 2 mn), (q 11, eI cy 24 se), (q 12, eI cy 384 ce), (q 13, eI cy 2 wa), (q 14, eI cy 5 fw), (q 16, eI cy 16 tl9)] sz)) (va_A [(q 0, eMod T q U), (q 1, eI cy 192 sc), (q 3, eZ cy 2 is), (q 5, eI cy 224 ca), (q 6, eI cy 2 zs), (q 9, eI cy 24 d), (q 10, eI cy 2 mn), (q 11, eI cy 24 se), (q 12, eI cy 384 ce), (q 13, eI cy 2 wa), (q 14, eI cy 5 fw), (q 16, eI cy 16 tl9)] sz)) 0 0 (va_A [(q 0, eMod T q U), (q 1, eI cy 192 sc), (q 3, eZ cy 2 is), (q 5, eI cy 224 ca), (q 6, eI cy 2 zs), (q 9, eI cy 24 d), (q 10, eI cy 2 mn), (q 11, eI cy 24 se), (q 12, eI cy 384 ce), (q 13, eI cy 2 wa), (q 14, eI cy 5 fw), (q 16, eI cy 16 tl9)] sz) := by
  refine gW_i (cc := cX4_ask) (maxL := 5) (ty := .int) (by decide) rfl (Nat.le_of_ble_eq_true rfl) (fun v u hv => by rfl) ?_
  intro pp ee ss mm bw mt cd QQ AA ls hfx hP hG hD hA hret hl
  have hS : va_S AA ss.heap ss.heap [] := va_S.rf
  obtain ⟨H, eH⟩ : ∃ H, H = ss.heap := ⟨_, rfl⟩
  obtain ⟨locs, eL⟩ : ∃ L : List Loc, L = [] := ⟨_, rfl⟩
  have hP : va_P D vwCl [(q 0, eMod T q U), (q 1, eI cy 192 sc), (q 3, eZ cy 2 is), (q 5, eI cy 224 ca), (q 6, eI cy 2 zs), (q 9, eI cy 24 d), (q 10, eI cy 2 mn), (q 11, eI cy 24 se), (q 12, eI cy 384 ce), (q 13, eI cy 2 wa), (q 14, eI cy 5 fw), (q 16, eI cy 16 tl9)] H := by rw [eH]; exact hP
  have hS : va_S AA ss.heap H locs := by rw [eH, eL]; exact hS
  have goal : ∀ X Y, X = H → Y = locs → W pp l ee ({ frames := 3, cells := 0, slots := 0, locals := 73 } : Room) ss mm ([.ref (q 0), .int (nI i), .int (nI b)] : List Value).toArray bw mt cd X Y 0 0 QQ (F0 mm 0 ls []) → W pp l ee ({ frames := 3, cells := 0, slots := 0, locals := 73 } : Room) ss mm ([.ref (q 0), .int (nI i), .int (nI b)] : List Value).toArray bw mt cd ss.heap [] 0 0 QQ (F0 mm 0 ls []) := fun X Y hX hY h => by rw [hX, hY, eH, eL] at h; exact h
  refine goal H locs rfl rfl ?_
  clear goal eH eL
  obtain ⟨hx, hb, hml, hown, hts, hlocks⟩ := hfx
  have hown : ss.vm.findClass RX4 = some mm.cls := hown
  have hl : lv_has ls 5 [(0, .ref (q 0)), (1, .int (nI i)), (2, .int (nI b))] := hl
  have zL := okD_len ho
  refine lv_iload_n hx hb dX4_ask_0 rfl (lv_at hl 1 rfl) ?_
  refine gc_Si (va_runS (As := [.int (nI i)]) (rest := []) ⟨hx, hb, hml, hown, hts⟩ (c_X4_isClient l D cy (nI i)) (va_cwS 1 hts gX4_ask_X4_isClient rfl rfl rfl (by decide +kernel) ⟨Nat.le_of_ble_eq_true rfl, Nat.le_of_ble_eq_true rfl⟩) (gpSR hG (hP.sub [] rfl)) rfl rfl hl.1 rfl (lv_room (Nat.le_of_ble_eq_true rfl)) dX4_ask_1 ⟨Nat.zero_le _, Nat.zero_le _⟩) ?_
  refine lv_if_eq (tgt := 22) hx hb dX4_ask_4 (by decide) (fun c_4 => ?_) (fun c_4 => ?_)
  · skip
    have c_4 : ¬ (pIn (nI i) 0 1) := gb_eq0.mp c_4
    exact absurd (ok_idx (n := 1) (by omega) (by decide)) c_4
  · skip
    have c_4 : pIn (nI i) 0 1 := gb_ne0.mp c_4
    refine lv_iload_n hx hb dX4_ask_7 rfl (lv_at hl 2 rfl) ?_
    refine lv_iconst (v := nI 0) hx hb dX4_ask_8 (by decide) ?_
    refine lv_sipush (v := nI 300) hx hb dX4_ask_9 (by decide) ?_
    refine gc_Si (va_runS (As := [.int (nI b), .int (nI 0), .int (nI 300)]) (rest := []) ⟨hx, hb, hml, hown, hts⟩ (c_X4_in l D cy (nI b) (nI 0) (nI 300)) (va_cwS 3 hts gX4_ask_X4_in rfl rfl rfl (by decide +kernel) ⟨Nat.le_of_ble_eq_true rfl, Nat.le_of_ble_eq_true rfl⟩) (gpSR hG (hP.sub [] rfl)) rfl rfl hl.1 rfl (lv_room (Nat.le_of_ble_eq_true rfl)) dX4_ask_12 ⟨Nat.zero_le _, Nat.zero_le _⟩) ?_
    refine g_ti (y := gb (pIn (nI b) 0 300)) ((congrArg (fun z => gb (pIn (nI b) z (nI 300 : Int32).toInt)) (by decide : (nI 0 : Int32).toInt = 0)).trans (congrArg (fun z => gb (pIn (nI b) 0 z)) (by decide : (nI 300 : Int32).toInt = 300))) ?_
    refine lv_if_eq (tgt := 22) hx hb dX4_ask_15 (by decide) (fun c_15 => ?_) (fun c_15 => ?_)
    · skip
      have c_15 : ¬ (pIn (nI b) 0 300) := gb_eq0.mp c_15
      exact absurd (ok_idx (n := 300) (by omega) (by decide)) c_15
    · skip
      have c_15 : pIn (nI b) 0 300 := gb_ne0.mp c_15
      refine lv_iconst (v := nI 1) hx hb dX4_ask_18 (by decide) ?_
      refine lv_goto (tgt := 23) hx hb dX4_ask_19 (by decide) ?_
      refine lv_istore_n (lv' := [(3, .int (nI 1)), (0, .ref (q 0)), (1, .int (nI i)), (2, .int (nI b))]) hx hb dX4_ask_23 rfl hl (by decide) rfl (fun ls hl => ?_)
      refine lv_aload_n hx hb dX4_ask_24 rfl (lv_at hl 1 rfl) ?_
      refine lv_iload_n hx hb dX4_ask_25 rfl (lv_at hl 0 rfl) ?_
      refine lv_if_ne (tgt := 33) hx hb dX4_ask_26 (by decide) (fun c_26 => ?_) (fun c_26 => ?_)
      · skip
        have c_26 : ¬ 1 = 0 := fun z => c_26 ((nI_eq (a := 1) (b := 0) (by omega) (by omega)).mpr z)
        refine lv_aload_n hx hb dX4_ask_33 rfl (lv_at hl 1 rfl) ?_
        refine va_get (D := D) (ci := 4) (v := .ref (q 3)) (C := RX4) (T := TX4) (N := 17) hx hb hts iX4_ask_X4 hown hG.1 hP 0 rfl rfl 3 (by decide) (hts (.fieldLink RX4 16 "DirtyTilesModel" "isIn" "[Z") (by decide +kernel)) (fun _ h9 => h9) rfl dX4_ask_34 ?_
        refine lv_iload_n hx hb dX4_ask_37 rfl (lv_at hl 2 rfl) ?_
        refine g_zald hx hb hG hP 2 2 rfl rfl (k := i) (by omega) (by decide) dX4_ask_38 ?_
        refine g_ti (y := gb (J)) (hj) ?_
        refine lv_if_eq (tgt := 51) hx hb dX4_ask_39 (by decide) (fun c_39 => ?_) (fun c_39 => ?_)
        · skip
          have c_39 : ¬ (J) := gb_eq0.mp c_39
          exact absurd (hJ) c_39
        · skip
          have c_39 : J := gb_ne0.mp c_39
          refine lv_aload_n hx hb dX4_ask_42 rfl (lv_at hl 1 rfl) ?_
          refine va_get (D := D) (ci := 4) (v := .ref (q 13)) (C := RX4) (T := TX4) (N := 17) hx hb hts iX4_ask_X4 hown hG.1 hP 0 rfl rfl 13 (by decide) (hts (.fieldLink RX4 47 "DirtyTilesModel" "waiting" "[I") (by decide +kernel)) (fun _ h9 => h9) rfl dX4_ask_43 ?_
          refine lv_iload_n hx hb dX4_ask_46 rfl (lv_at hl 2 rfl) ?_
          refine g_iald hx hb hG hP 9 0 rfl rfl (k := i) (by omega) (by decide) dX4_ask_47 ?_
          refine g_ti (y := nI 0) (hwa) ?_
          refine lv_if_le (tgt := 55) hx hb dX4_ask_48 (by decide) (fun c_48 => ?_) (fun c_48 => ?_)
          · skip
            have c_48 : 0 ≤ 0 := (nI_leI (a := 0) (b := 0) (by omega) (by omega)).mp c_48
            refine lv_iconst (v := nI 0) hx hb dX4_ask_55 (by decide) ?_
            refine gc_Wi (wn := fun u => [(q 0, eMod (nI 0) q U), (q 1, eI cy 192 sc), (q 3, eZ cy 2 is), (q 5, eI cy 224 ca), (q 6, eI cy 2 zs), (q 9, eI cy 24 d), (q 10, eI cy 2 mn), (q 11, eI cy 24 se), (q 12, eI cy 384 ce), (q 13, eI cy 2 wa), (q 14, eI cy 5 fw), (q 16, eI cy 16 tl9)]) (wr := [(q 1, eI cy 192 sc), (q 3, eZ cy 2 is), (q 5, eI cy 224 ca), (q 6, eI cy 2 zs), (q 9, eI cy 24 d), (q 10, eI cy 2 mn), (q 11, eI cy 24 se), (q 12, eI cy 384 ce), (q 13, eI cy 2 wa), (q 14, eI cy 5 fw), (q 16, eI cy 16 tl9)]) (va_runV (As := [.int (nI 0)]) (rest := []) ⟨hx, hb, hml, hown, hts⟩ (c_X4_goesWell l D cy H.size q T U 0 (by decide)) (cwV 1 hts gX4_ask_X4_goesWell rfl rfl rfl (by decide +kernel) ⟨Nat.le_of_ble_eq_true rfl, Nat.le_of_ble_eq_true rfl⟩) (gpVI (ci := 4) (q0 := 0) hG (hP.sub [0] rfl) (hD.sub [0] (by decide) rfl) rfl rfl) rfl rfl hl.1 rfl (lv_room (Nat.le_of_ble_eq_true rfl)) dX4_ask_56 ⟨Nat.zero_le _, Nat.zero_le _⟩) hP hD hS hA [0] [1, 2, 3, 4, 5, 6, 7, 8, 9, 10, 11] [11, 0, 1, 2, 3, 4, 5, 6, 7, 8, 9, 10] rfl rfl (by decide) (by decide) (fun _ => rfl) (by decide) (fun r_56 _u H locs hw_56 hP hD hS => ?_)
            have hP : va_P D vwCl [(q 0, eMod (nI 0) q U), (q 1, eI cy 192 sc), (q 3, eZ cy 2 is), (q 5, eI cy 224 ca), (q 6, eI cy 2 zs), (q 9, eI cy 24 d), (q 10, eI cy 2 mn), (q 11, eI cy 24 se), (q 12, eI cy 384 ce), (q 13, eI cy 2 wa), (q 14, eI cy 5 fw), (q 16, eI cy 16 tl9)] H := hP
            have hD : va_D AA [(q 0, eMod (nI 0) q U), (q 1, eI cy 192 sc), (q 3, eZ cy 2 is), (q 5, eI cy 224 ca), (q 6, eI cy 2 zs), (q 9, eI cy 24 d), (q 10, eI cy 2 mn), (q 11, eI cy 24 se), (q 12, eI cy 384 ce), (q 13, eI cy 2 wa), (q 14, eI cy 5 fw), (q 16, eI cy 16 tl9)] := hD
            obtain ⟨hr_56, hw_56⟩ := hw_56
            refine g_ti (y := gb (0 = 0)) hr_56 ?_
            have hw_56 : True := hw_56
            refine lv_if_ne (tgt := 64) hx hb dX4_ask_59 (by decide) (fun c_59 => ?_) (fun c_59 => ?_)
            · skip
              have c_59 : 0 = 0 := gb_ne0.mp c_59
              have join_94 : ∀ (left : Nat) (U1 : Int32) (L1 : List Nat) (M1 : List (Nat × Int64)) (C1 : List Int64) (ca1 zs1 d1 mn1 se1 ce1 wa1 w1 tl1 : Nat → Int32), (askF S L [] C b fw = (L1, M1, C1, left, w1)) → (left ≤ b) → (U1 = U + nI (b - left)) → (hCo C1 ca1 i ∧ zs1 i = nI C1.length ∧ C1.length ≤ 6 ∧ kO 112 i ca ca1 ∧ kO 1 i zs zs1) → (hNo L1 d1 i ∧ mn1 i = nI L1.length ∧ okD L1 ∧ kO 12 i d d1 ∧ kO 1 i mn mn1) → (hMo M1 se1 ce1 i ∧ wa1 i = nI M1.length ∧ M1.length + L1.length ≤ 12 ∧ kO 12 i se se1 ∧ kO 192 i ce ce1 ∧ kO 1 i wa wa1) → ∀ (H : Heap) (locs : List Loc) (ls : Array Slot), va_P D vwCl [(q 0, eMod (nI 0) q U1), (q 1, eI cy 192 sc), (q 3, eZ cy 2 is), (q 5, eI cy 224 ca1), (q 6, eI cy 2 zs1), (q 9, eI cy 24 d1), (q 10, eI cy 2 mn1), (q 11, eI cy 24 se1), (q 12, eI cy 384 ce1), (q 13, eI cy 2 wa1), (q 14, eI cy 5 w1), (q 16, eI cy 16 tl1)] H → va_D AA [(q 0, eMod (nI 0) q U1), (q 1, eI cy 192 sc), (q 3, eZ cy 2 is), (q 5, eI cy 224 ca1), (q 6, eI cy 2 zs1), (q 9, eI cy 24 d1), (q 10, eI cy 2 mn1), (q 11, eI cy 24 se1), (q 12, eI cy 384 ce1), (q 13, eI cy 2 wa1), (q 14, eI cy 5 w1), (q 16, eI cy 16 tl1)] → va_S AA ss.heap H locs → lv_has ls 5 [(0, .ref (q 0)), (1, .int (nI i))] → W pp l ee ({ frames := 3, cells := 0, slots := 0, locals := 73 } : Room) ss mm ([.ref (q 0), .int (nI i), .int (nI b)] : List Value).toArray bw mt cd H locs 0 0 QQ (F0 mm 94 ls []) := by
                intro left U1 L1 M1 C1 ca1 zs1 d1 mn1 se1 ce1 wa1 w1 tl1 hfin hlb hU1 hca1 hd1 hM1 H locs ls hP hD hS hl
                refine lv_aload_n hx hb dX4_ask_94 rfl (lv_at hl 0 rfl) ?_
                refine va_get (D := D) (ci := 4) (v := .ref (q 13)) (C := RX4) (T := TX4) (N := 17) hx hb hts iX4_ask_X4 hown hG.1 hP 0 rfl rfl 13 (by decide) (hts (.fieldLink RX4 47 "DirtyTilesModel" "waiting" "[I") (by decide +kernel)) (fun _ h9 => h9) rfl dX4_ask_95 ?_
                refine lv_iload_n hx hb dX4_ask_98 rfl (lv_at hl 1 rfl) ?_
                refine g_iald hx hb hG hP 9 0 rfl rfl (k := i) (by omega) (by decide) dX4_ask_99 ?_
                refine g_ti (y := nI M1.length) (hM1.2.1) ?_
                rw [hU1] at hP hD
                exact hret _ _ _ _ _ ⟨left, L1, M1, C1, ca1, zs1, d1, mn1, se1, ce1, wa1, w1, tl1⟩ dX4_ask_100 (⟨rfl, hfin, hca1, hd1, hM1⟩) (hP.sub [0, 1, 2, 3, 4, 5, 6, 7, 8, 9, 10, 11] rfl) (hD.sub [0, 1, 2, 3, 4, 5, 6, 7, 8, 9, 10, 11] (by decide) rfl) hS
              refine lv_iload_n hx hb dX4_ask_64 rfl (lv_at hl 3 rfl) ?_
              refine lv_istore (lv' := [(4, .int (nI b)), (3, .int (nI 1)), (0, .ref (q 0)), (1, .int (nI i)), (2, .int (nI b))]) hx hb dX4_ask_65 hl (by decide) rfl (fun ls hl => ?_)
              have loop_67 : ∀ (n9 : Nat) (e : Nat) (lv : Int32) (left : Nat) (U1 : Int32) (L1 : List Nat) (M1 : List (Nat × Int64)) (C1 : List Int64) (ca1 zs1 d1 mn1 se1 ce1 wa1 w1 tl1 : Nat → Int32), L1.length + e < n9 → ((e = 1 ∧ lv = nI left ∧ askF S L1 M1 C1 left w1 = askF S L [] C b fw) ∨ (e = 0 ∧ lv = -1 ∧ askF S L [] C b fw = (L1, M1, C1, left, w1))) → (left ≤ b) → (U1 = U + nI (b - left)) → (hCo C1 ca1 i ∧ zs1 i = nI C1.length ∧ C1.length ≤ 6 ∧ kO 112 i ca ca1 ∧ kO 1 i zs zs1) → (hNo L1 d1 i ∧ mn1 i = nI L1.length ∧ okD L1 ∧ kO 12 i d d1 ∧ kO 1 i mn mn1) → (hMo M1 se1 ce1 i ∧ wa1 i = nI M1.length ∧ M1.length + L1.length ≤ 12 ∧ kO 12 i se se1 ∧ kO 192 i ce ce1 ∧ kO 1 i wa wa1) → ∀ (H : Heap) (locs : List Loc) (ls : Array Slot), va_P D vwCl [(q 0, eMod (nI 0) q U1), (q 1, eI cy 192 sc), (q 3, eZ cy 2 is), (q 5, eI cy 224 ca1), (q 6, eI cy 2 zs1), (q 9, eI cy 24 d1), (q 10, eI cy 2 mn1), (q 11, eI cy 24 se1), (q 12, eI cy 384 ce1), (q 13, eI cy 2 wa1), (q 14, eI cy 5 w1), (q 16, eI cy 16 tl1)] H → va_D AA [(q 0, eMod (nI 0) q U1), (q 1, eI cy 192 sc), (q 3, eZ cy 2 is), (q 5, eI cy 224 ca1), (q 6, eI cy 2 zs1), (q 9, eI cy 24 d1), (q 10, eI cy 2 mn1), (q 11, eI cy 24 se1), (q 12, eI cy 384 ce1), (q 13, eI cy 2 wa1), (q 14, eI cy 5 w1), (q 16, eI cy 16 tl1)] → va_S AA ss.heap H locs → lv_has ls 5 [(0, .ref (q 0)), (1, .int (nI i)), (2, .int (nI b)), (4, .int lv)] → W pp l ee ({ frames := 3, cells := 0, slots := 0, locals := 73 } : Room) ss mm ([.ref (q 0), .int (nI i), .int (nI b)] : List Value).toArray bw mt cd H locs 0 0 QQ (F0 mm 67 ls []) := by
                intro n9
                induction n9 with
                | zero => intro e lv left U1 L1 M1 C1 ca1 zs1 d1 mn1 se1 ce1 wa1 w1 tl1 h9; exact absurd h9 (Nat.not_lt_zero _)
                | succ n9 ih_67 =>
                  intro e lv left U1 L1 M1 C1 ca1 zs1 d1 mn1 se1 ce1 wa1 w1 tl1 hm_67 hst hlb hU1 hca1 hd1 hM1 H locs ls hP hD hS hl
                  have zM := hM1.2.2.1
                  refine lv_iload hx hb dX4_ask_67 (lv_at hl 3 rfl) ?_
                  refine lv_iconst (v := (-1)) hx hb dX4_ask_69 (by decide) ?_
                  refine lv_icmp_eq (tgt := 94) hx hb dX4_ask_70 (by decide) (fun c_70 => ?_) (fun c_70 => ?_)
                  · skip
                    have hfin : askF S L [] C b fw = (L1, M1, C1, left, w1) := hst.elim (fun z => absurd (z.2.1.symm.trans c_70) (neg1 (by omega))) (fun z => z.2.2)
                    exact join_94 left U1 L1 M1 C1 ca1 zs1 d1 mn1 se1 ce1 wa1 w1 tl1 hfin (by omega) hU1 hca1 hd1 hM1 _ _ _ (hP.sub [0, 1, 2, 3, 4, 5, 6, 7, 8, 9, 10, 11] rfl) (hD.sub [0, 1, 2, 3, 4, 5, 6, 7, 8, 9, 10, 11] (by decide) rfl) hS (lv_sub hl [0, 1] rfl)
                  · skip
                    obtain ⟨he, hlv, hR9⟩ := hst.resolve_right (fun z => c_70 z.2.1)
                    refine lv_aload_n hx hb dX4_ask_73 rfl (lv_at hl 0 rfl) ?_
                    refine va_get (D := D) (ci := 4) (v := .ref (q 10)) (C := RX4) (T := TX4) (N := 17) hx hb hts iX4_ask_X4 hown hG.1 hP 0 rfl rfl 10 (by decide) (hts (.fieldLink RX4 38 "DirtyTilesModel" "many" "[I") (by decide +kernel)) (fun _ h9 => h9) rfl dX4_ask_74 ?_
                    refine lv_iload_n hx hb dX4_ask_77 rfl (lv_at hl 1 rfl) ?_
                    refine g_iald hx hb hG hP 6 0 rfl rfl (k := i) (by omega) (by decide) dX4_ask_78 ?_
                    refine g_ti (y := nI L1.length) (hd1.2.1) ?_
                    refine lv_if_le (tgt := 94) hx hb dX4_ask_79 (by decide) (fun c_79 => ?_) (fun c_79 => ?_)
                    · skip
                      have c_79 : L1.length ≤ 0 := (nI_leI (a := L1.length) (b := 0) (by omega) (by omega)).mp c_79
                      have hfin : askF S L [] C b fw = (L1, M1, C1, left, w1) := hR9.symm.trans (askF_e0 c_79)
                      exact join_94 left U1 L1 M1 C1 ca1 zs1 d1 mn1 se1 ce1 wa1 w1 tl1 hfin (by omega) hU1 hca1 hd1 hM1 _ _ _ (hP.sub [0, 1, 2, 3, 4, 5, 6, 7, 8, 9, 10, 11] rfl) (hD.sub [0, 1, 2, 3, 4, 5, 6, 7, 8, 9, 10, 11] (by decide) rfl) hS (lv_sub hl [0, 1] rfl)
                    · skip
                      have c_79 : ¬ L1.length ≤ 0 := fun z => c_79 ((nI_leI (a := L1.length) (b := 0) (by omega) (by omega)).mpr z)
                      refine lv_aload_n hx hb dX4_ask_82 rfl (lv_at hl 0 rfl) ?_
                      refine lv_iload_n hx hb dX4_ask_83 rfl (lv_at hl 1 rfl) ?_
                      refine lv_iload hx hb dX4_ask_84 (lv_at hl 3 rfl) ?_
                      refine g_ti (y := nI left) (hlv) ?_
                      by_cases hs_86 : wayO C1 (S (L1.getD 0 0)) % 100 ≤ left
                      · skip
                        refine gc_Wi (wn := fun u => [(q 0, eMod (nI 0) q (U1 + nI (wayO C1 (S (L1.getD 0 0)) % 100))), (q 1, eI cy 192 sc), (q 3, eZ cy 2 is), (q 5, eI cy 224 u.1), (q 6, eI cy 2 u.2.1), (q 9, eI cy 24 u.2.2.1), (q 10, eI cy 2 u.2.2.2.1), (q 11, eI cy 24 u.2.2.2.2.1), (q 12, eI cy 384 u.2.2.2.2.2.1), (q 13, eI cy 2 u.2.2.2.2.2.2.1), (q 14, eI cy 5 u.2.2.2.2.2.2.2.1), (q 16, eI cy 16 u.2.2.2.2.2.2.2.2)]) (wr := [(q 3, eZ cy 2 is)]) (va_runV (As := [.int (nI i), .int (nI left)]) (rest := []) ⟨hx, hb, hml, hown, hts⟩ (c_X4_write l D cy H.size q (nI 0) U1 sc ca1 zs1 d1 mn1 se1 ce1 wa1 w1 tl1 S L1 C1 M1 i left hi hs hca1.1 hca1.2.1 hca1.2.2.1 hd1.1 hd1.2.1 hd1.2.2.1 (by omega) hM1.1 hM1.2.1 hM1.2.2.1 (by omega) hs_86) (cwV 2 hts gX4_ask_X4_write rfl rfl rfl (by decide +kernel) ⟨Nat.le_of_ble_eq_true rfl, Nat.le_of_ble_eq_true rfl⟩) (gpVI (ci := 4) (q0 := 0) hG (hP.sub [0, 1, 3, 4, 5, 6, 7, 8, 9, 10, 11] rfl) (hD.sub [0, 1, 3, 4, 5, 6, 7, 8, 9, 10, 11] (by decide) rfl) rfl rfl) rfl rfl hl.1 rfl (lv_room (Nat.le_of_ble_eq_true rfl)) dX4_ask_86 ⟨Nat.zero_le _, Nat.zero_le _⟩) hP hD hS hA [0, 1, 3, 4, 5, 6, 7, 8, 9, 10, 11] [2] [1, 2, 0, 3, 4, 5, 6, 7, 8, 9, 10, 11] rfl rfl (by decide) (by decide) (fun _ => rfl) (by decide) (fun r_86 u9 H locs hw_86 hP hD hS => ?_)
                        obtain ⟨ca2_86, zs2_86, d2_86, mn2_86, se2_86, ce2_86, wa2_86, fw2_86, tl3⟩ := u9
                        have hP : va_P D vwCl [(q 0, eMod (nI 0) q (U1 + nI (wayO C1 (S (L1.getD 0 0)) % 100))), (q 1, eI cy 192 sc), (q 3, eZ cy 2 is), (q 5, eI cy 224 ca2_86), (q 6, eI cy 2 zs2_86), (q 9, eI cy 24 d2_86), (q 10, eI cy 2 mn2_86), (q 11, eI cy 24 se2_86), (q 12, eI cy 384 ce2_86), (q 13, eI cy 2 wa2_86), (q 14, eI cy 5 fw2_86), (q 16, eI cy 16 tl3)] H := hP
                        have hD : va_D AA [(q 0, eMod (nI 0) q (U1 + nI (wayO C1 (S (L1.getD 0 0)) % 100))), (q 1, eI cy 192 sc), (q 3, eZ cy 2 is), (q 5, eI cy 224 ca2_86), (q 6, eI cy 2 zs2_86), (q 9, eI cy 24 d2_86), (q 10, eI cy 2 mn2_86), (q 11, eI cy 24 se2_86), (q 12, eI cy 384 ce2_86), (q 13, eI cy 2 wa2_86), (q 14, eI cy 5 fw2_86), (q 16, eI cy 16 tl3)] := hD
                        obtain ⟨hr_86, hw_86⟩ := hw_86
                        refine g_ti (y := nI (left - wayO C1 (S (L1.getD 0 0)) % 100)) hr_86 ?_
                        obtain ⟨ef_86, hw_86⟩ := hw_86
                        subst ef_86
                        have hP : va_P D vwCl [(q 0, eMod (nI 0) q (U1 + nI (wayO C1 (S (L1.getD 0 0)) % 100))), (q 1, eI cy 192 sc), (q 3, eZ cy 2 is), (q 5, eI cy 224 ca2_86), (q 6, eI cy 2 zs2_86), (q 9, eI cy 24 d2_86), (q 10, eI cy 2 mn2_86), (q 11, eI cy 24 se2_86), (q 12, eI cy 384 ce2_86), (q 13, eI cy 2 wa2_86), (q 14, eI cy 5 ((upd w1 (wayO C1 (S (L1.getD 0 0)) / 100) (w1 (wayO C1 (S (L1.getD 0 0)) / 100) + nI 1)))), (q 16, eI cy 16 tl3)] H := hP
                        have hD : va_D AA [(q 0, eMod (nI 0) q (U1 + nI (wayO C1 (S (L1.getD 0 0)) % 100))), (q 1, eI cy 192 sc), (q 3, eZ cy 2 is), (q 5, eI cy 224 ca2_86), (q 6, eI cy 2 zs2_86), (q 9, eI cy 24 d2_86), (q 10, eI cy 2 mn2_86), (q 11, eI cy 24 se2_86), (q 12, eI cy 384 ce2_86), (q 13, eI cy 2 wa2_86), (q 14, eI cy 5 ((upd w1 (wayO C1 (S (L1.getD 0 0)) / 100) (w1 (wayO C1 (S (L1.getD 0 0)) / 100) + nI 1)))), (q 16, eI cy 16 tl3)] := hD
                        have hw_86 : (hCo (brg C1 (S (L1.getD 0 0))) ca2_86 i ∧ zs2_86 i = nI (brg C1 (S (L1.getD 0 0))).length ∧ kO 112 i ca1 ca2_86 ∧ kO 1 i zs1 zs2_86) ∧ (hNo (L1.drop 1) d2_86 i ∧ mn2_86 i = nI (L1.length - 1) ∧ kO 12 i d1 d2_86 ∧ kO 1 i mn1 mn2_86) ∧ (hMo (M1 ++ [(L1.getD 0 0, S (L1.getD 0 0))]) se2_86 ce2_86 i ∧ wa2_86 i = nI (M1.length + 1) ∧ kO 12 i se1 se2_86 ∧ kO 192 i ce1 ce2_86 ∧ kO 1 i wa1 wa2_86) := hw_86
                        refine lv_istore (lv' := [(4, .int (nI (left - wayO C1 (S (L1.getD 0 0)) % 100))), (0, .ref (q 0)), (1, .int (nI i)), (2, .int (nI b))]) hx hb dX4_ask_89 hl (by decide) rfl (fun ls hl => ?_)
                        refine lv_goto (tgt := 67) hx hb dX4_ask_91 (by decide) ?_
                        exact ih_67 1 (nI (left - wayO C1 (S (L1.getD 0 0)) % 100)) (left - wayO C1 (S (L1.getD 0 0)) % 100) (U1 + nI (wayO C1 (S (L1.getD 0 0)) % 100)) (L1.drop 1) (M1 ++ [(L1.getD 0 0, S (L1.getD 0 0))]) (brg C1 (S (L1.getD 0 0))) ca2_86 zs2_86 d2_86 mn2_86 se2_86 ce2_86 wa2_86 ((upd w1 (wayO C1 (S (L1.getD 0 0)) / 100) (w1 (wayO C1 (S (L1.getD 0 0)) / 100) + nI 1))) tl3 (by first | (rw [List.length_drop]; omega) | omega) (by first | exact Or.inl ⟨rfl, rfl, (askF_t0 (by omega) hs_86).symm.trans hR9⟩ | exact Or.inr ⟨rfl, rfl, hR9.symm.trans (askF_f0 (by omega) hs_86)⟩) (by omega) (by first | exact hU1 | (rw [hU1, Int32.add_assoc, nI_add]; exact congrArg (fun z => U + nI z) (by omega))) (by first | exact hca1 | exact ⟨hw_86.1.1, hw_86.1.2.1, brg_le _ _, kO_tr hca1.2.2.2.1 hw_86.1.2.2.1, kO_tr hca1.2.2.2.2 hw_86.1.2.2.2⟩) (by first | exact hd1 | exact ⟨hw_86.2.1.1, by rw [List.length_drop]; exact hw_86.2.1.2.1, okD_drop hd1.2.2.1 1, kO_tr hd1.2.2.2.1 hw_86.2.1.2.2.1, kO_tr hd1.2.2.2.2 hw_86.2.1.2.2.2⟩) (by first | exact hM1 | exact ⟨hw_86.2.2.1, by rw [List.length_append]; exact hw_86.2.2.2.1, by rw [List.length_append, List.length_drop, List.length_singleton]; omega, kO_tr hM1.2.2.2.1 hw_86.2.2.2.2.1, kO_tr hM1.2.2.2.2.1 hw_86.2.2.2.2.2.1, kO_tr hM1.2.2.2.2.2 hw_86.2.2.2.2.2.2⟩) _ _ _ (hP.sub [0, 1, 2, 3, 4, 5, 6, 7, 8, 9, 10, 11] rfl) (hD.sub [0, 1, 2, 3, 4, 5, 6, 7, 8, 9, 10, 11] (by decide) rfl) hS (lv_sub hl [1, 2, 3, 0] rfl)
                      · skip
                        refine gc_Wi (wn := fun u => [(q 0, eMod (nI 0) q U1), (q 1, eI cy 192 sc), (q 3, eZ cy 2 is), (q 5, eI cy 224 ca1), (q 6, eI cy 2 zs1), (q 9, eI cy 24 d1), (q 10, eI cy 2 mn1), (q 11, eI cy 24 se1), (q 12, eI cy 384 ce1), (q 13, eI cy 2 wa1), (q 14, eI cy 5 w1), (q 16, eI cy 16 u)]) (wr := [(q 3, eZ cy 2 is)]) (va_runV (As := [.int (nI i), .int (nI left)]) (rest := []) ⟨hx, hb, hml, hown, hts⟩ (c_X4_write_n l D cy H.size q (nI 0) U1 sc ca1 zs1 d1 mn1 se1 ce1 wa1 w1 tl1 S L1 C1 M1 i left hi hs hca1.1 hca1.2.1 hca1.2.2.1 hd1.1 hd1.2.1 hd1.2.2.1 (by omega) hM1.1 hM1.2.1 hM1.2.2.1 (by omega) hs_86) (cwV 2 hts gX4_ask_X4_write rfl rfl rfl (by decide +kernel) ⟨Nat.le_of_ble_eq_true rfl, Nat.le_of_ble_eq_true rfl⟩) (gpVI (ci := 4) (q0 := 0) hG (hP.sub [0, 1, 3, 4, 5, 6, 7, 8, 9, 10, 11] rfl) (hD.sub [0, 1, 3, 4, 5, 6, 7, 8, 9, 10, 11] (by decide) rfl) rfl rfl) rfl rfl hl.1 rfl (lv_room (Nat.le_of_ble_eq_true rfl)) dX4_ask_86 ⟨Nat.zero_le _, Nat.zero_le _⟩) hP hD hS hA [0, 1, 3, 4, 5, 6, 7, 8, 9, 10, 11] [2] [1, 2, 0, 3, 4, 5, 6, 7, 8, 9, 10, 11] rfl rfl (by decide) (by decide) (fun _ => rfl) (by decide) (fun r_86 tl3_2 H locs hw_86 hP hD hS => ?_)
                        have hP : va_P D vwCl [(q 0, eMod (nI 0) q U1), (q 1, eI cy 192 sc), (q 3, eZ cy 2 is), (q 5, eI cy 224 ca1), (q 6, eI cy 2 zs1), (q 9, eI cy 24 d1), (q 10, eI cy 2 mn1), (q 11, eI cy 24 se1), (q 12, eI cy 384 ce1), (q 13, eI cy 2 wa1), (q 14, eI cy 5 w1), (q 16, eI cy 16 tl3_2)] H := hP
                        have hD : va_D AA [(q 0, eMod (nI 0) q U1), (q 1, eI cy 192 sc), (q 3, eZ cy 2 is), (q 5, eI cy 224 ca1), (q 6, eI cy 2 zs1), (q 9, eI cy 24 d1), (q 10, eI cy 2 mn1), (q 11, eI cy 24 se1), (q 12, eI cy 384 ce1), (q 13, eI cy 2 wa1), (q 14, eI cy 5 w1), (q 16, eI cy 16 tl3_2)] := hD
                        obtain ⟨hr_86, hw_86⟩ := hw_86
                        refine g_ti (y := (-1)) hr_86 ?_
                        have hw_86 : True := hw_86
                        refine lv_istore (lv' := [(4, .int ((-1))), (0, .ref (q 0)), (1, .int (nI i)), (2, .int (nI b))]) hx hb dX4_ask_89 hl (by decide) rfl (fun ls hl => ?_)
                        refine lv_goto (tgt := 67) hx hb dX4_ask_91 (by decide) ?_
                        exact ih_67 0 ((-1)) left U1 L1 M1 C1 ca1 zs1 d1 mn1 se1 ce1 wa1 w1 tl3_2 (by first | (rw [List.length_drop]; omega) | omega) (by first | exact Or.inl ⟨rfl, rfl, (askF_t0 (by omega) hs_86).symm.trans hR9⟩ | exact Or.inr ⟨rfl, rfl, hR9.symm.trans (askF_f0 (by omega) hs_86)⟩) (by omega) (by first | exact hU1 | (rw [hU1, Int32.add_assoc, nI_add]; exact congrArg (fun z => U + nI z) (by omega))) (by first | exact hca1 | exact ⟨hw_86.1.1, hw_86.1.2.1, brg_le _ _, kO_tr hca1.2.2.2.1 hw_86.1.2.2.1, kO_tr hca1.2.2.2.2 hw_86.1.2.2.2⟩) (by first | exact hd1 | exact ⟨hw_86.2.1.1, by rw [List.length_drop]; exact hw_86.2.1.2.1, okD_drop hd1.2.2.1 1, kO_tr hd1.2.2.2.1 hw_86.2.1.2.2.1, kO_tr hd1.2.2.2.2 hw_86.2.1.2.2.2⟩) (by first | exact hM1 | exact ⟨hw_86.2.2.1, by rw [List.length_append]; exact hw_86.2.2.2.1, by rw [List.length_append, List.length_drop, List.length_singleton]; omega, kO_tr hM1.2.2.2.1 hw_86.2.2.2.2.1, kO_tr hM1.2.2.2.2.1 hw_86.2.2.2.2.2.1, kO_tr hM1.2.2.2.2.2 hw_86.2.2.2.2.2.2⟩) _ _ _ (hP.sub [0, 1, 2, 3, 4, 5, 6, 7, 8, 9, 10, 11] rfl) (hD.sub [0, 1, 2, 3, 4, 5, 6, 7, 8, 9, 10, 11] (by decide) rfl) hS (lv_sub hl [1, 2, 3, 0] rfl)
              exact loop_67 ((L.length + 1) + 1) 1 (nI b) b U L ([]) C ca zs d mn se ce wa fw tl9 (Nat.lt_succ_self _) (Or.inl ⟨rfl, rfl, rfl⟩) (by omega) (by rw [Nat.sub_self]; exact (Int32.add_zero U).symm) ⟨hca, hsz, hC, kO_rf _ _ _, kO_rf _ _ _⟩ ⟨hd, hmn, ho, kO_rf _ _ _, kO_rf _ _ _⟩ ⟨fun j hj => absurd hj (Nat.not_lt_zero j), hwa, (show 0 + L.length ≤ 12 by omega), kO_rf _ _ _, kO_rf _ _ _, kO_rf _ _ _⟩ _ _ _ (hP.sub [0, 1, 2, 3, 4, 5, 6, 7, 8, 9, 10, 11] rfl) (hD.sub [0, 1, 2, 3, 4, 5, 6, 7, 8, 9, 10, 11] (by decide) rfl) hS (lv_sub hl [2, 3, 4, 0] rfl)
            · skip
              have c_59 : ¬ (0 = 0) := gb_eq0.mp c_59
              exact absurd (by decide) c_59
          · skip
            have c_48 : ¬ 0 ≤ 0 := fun z => c_48 ((nI_leI (a := 0) (b := 0) (by omega) (by omega)).mpr z)
            exact absurd c_48 (by decide)
      · skip
        have c_26 : 1 = 0 := (nI_eq (a := 1) (b := 0) (by omega) (by omega)).mp c_26
        exact absurd c_26 (by decide)
set_option maxHeartbeats 4000000 in
set_option maxRecDepth 100000 in
theorem c_X4_answer (l : Launch) (D : va_G) (cy : Nat → ClassId) (sz : Nat) (q : Nat → Nat) (T U : Int32) (is ss9 ow zo se ce wa tl9 : Nat → Int32) (So : Nat → Int64) (O : List Int64) (M : List (Nat × Int64)) (i : Nat) (J : Prop) (hi : i < 2) (hj : is i = gb (J)) (hJ : J) (hso : hSo So ss9 i) (how : hCo O ow i) (hzo : zo i = nI O.length) (hO : O.length ≤ 6) (hM9 : hMo M se ce i) (hwa : wa i = nI M.length) (h0 : 0 < M.length) (hn : M.length ≤ 12) (ho : okM M) : Met l yX4_answer wsX4_answer ({ frames := 2, cells := 0, slots := 0, locals := 46 } : Room) (va_Pc [.ref (q 0), .int (nI i)] (gI D (gT cy) [(q 0, eMod T q U), (q 3, eZ cy 2 is), (q 4, eI cy 384 ss9), (q 7, eI cy 224 ow), (q 8, eI cy 2 zo), (q 11, eI cy 24 se), (q 12, eI cy 384 ce), (q 13, eI cy 2 wa), (q 16, eI cy 16 tl9)] sz)) (va_Qi (fun (r9 : Int32) (u : (Nat → Int32) × (Nat → Int32) × (Nat → Int32) × (Nat → Int32) × (Nat → Int32)) => r9 = nI M.length ∧ (((hSo (scrF M So) u.1 i ∧ kO 192 i ss9 u.1) ∧ (hCo (cchF M O) u.2.1 i ∧ u.2.2.1 i = nI (cchF M O).length ∧ (cchF M O).length ≤ 6 ∧ kO 112 i ow u.2.1 ∧ kO 1 i zo u.2.2.1) ∧ (u.2.2.2.1 i = nI 0 ∧ kO 1 i wa u.2.2.2.1)))) (gO D (fun u : (Nat → Int32) × (Nat → Int32) × (Nat → Int32) × (Nat → Int32) × (Nat → Int32) => [(q 0, eMod (nI 0) q U), (q 3, eZ cy 2 is), (q 4, eI cy 384 u.1), (q 7, eI cy 224 u.2.1), (q 8, eI cy 2 u.2.2.1), (q 11, eI cy 24 se), (q 12, eI cy 384 ce), (q 13, eI cy 2 u.2.2.2.1), (q 16, eI cy 16 u.2.2.2.2)]) (va_A [(q 0, eMod T q U), (q 3, eZ cy 2 is), (q 4, eI cy 384 ss9), (q 7, eI cy 224 ow), (q 8, eI cy 2 zo), (q 11, eI cy 24 se), (q 12, eI cy 384 ce), (q 13, eI cy 2 wa), (q 16, eI cy 16 tl9)] sz)) (va_A [(q 0, eMod T q U), (q 3, eZ cy 2 is), (q 4, eI cy 384 ss9), (q 7, eI cy 224 ow), (q 8, eI cy 2 zo), (q 11, eI cy 24 se), (q 12, eI cy 384 ce), (q 13, eI cy 2 wa), (q 16, eI cy 16 tl9)] sz)) 0 0 (va_A [(q 0, eMod T q U), (q 3, eZ cy 2 is), (q 4, eI cy 384 ss9), (q 7, eI cy 224 ow), (q 8, eI cy 2 zo), (q 11, eI cy 24 se), (q 12, eI cy 384 ce), (q 13, eI cy 2 wa), (q 16, eI cy 16 tl9)] sz) := by
  refine gW_i (cc := cX4_answer) (maxL := 6) (ty := .int) (by decide) rfl (Nat.le_of_ble_eq_true rfl) (fun v u hv => by rfl) ?_
  intro pp ee ss mm bw mt cd QQ AA ls hfx hP hG hD hA hret hl
  have hS : va_S AA ss.heap ss.heap [] := va_S.rf
  obtain ⟨H, eH⟩ : ∃ H, H = ss.heap := ⟨_, rfl⟩
  obtain ⟨locs, eL⟩ : ∃ L : List Loc, L = [] := ⟨_, rfl⟩
  have hP : va_P D vwCl [(q 0, eMod T q U), (q 3, eZ cy 2 is), (q 4, eI cy 384 ss9), (q 7, eI cy 224 ow), (q 8, eI cy 2 zo), (q 11, eI cy 24 se), (q 12, eI cy 384 ce), (q 13, eI cy 2 wa), (q 16, eI cy 16 tl9)] H := by rw [eH]; exact hP
  have hS : va_S AA ss.heap H locs := by rw [eH, eL]; exact hS
  have goal : ∀ X Y, X = H → Y = locs → W pp l ee ({ frames := 2, cells := 0, slots := 0, locals := 46 } : Room) ss mm ([.ref (q 0), .int (nI i)] : List Value).toArray bw mt cd X Y 0 0 QQ (F0 mm 0 ls []) → W pp l ee ({ frames := 2, cells := 0, slots := 0, locals := 46 } : Room) ss mm ([.ref (q 0), .int (nI i)] : List Value).toArray bw mt cd ss.heap [] 0 0 QQ (F0 mm 0 ls []) := fun X Y hX hY h => by rw [hX, hY, eH, eL] at h; exact h
  refine goal H locs rfl rfl ?_
  clear goal eH eL
  obtain ⟨hx, hb, hml, hown, hts, hlocks⟩ := hfx
  have hown : ss.vm.findClass RX4 = some mm.cls := hown
  have hl : lv_has ls 6 [(0, .ref (q 0)), (1, .int (nI i))] := hl
  refine lv_aload_n hx hb dX4_answer_0 rfl (lv_at hl 0 rfl) ?_
  refine lv_iload_n hx hb dX4_answer_1 rfl (lv_at hl 1 rfl) ?_
  refine gc_Si (va_runS (As := [.int (nI i)]) (rest := [.ref (q 0)]) ⟨hx, hb, hml, hown, hts⟩ (c_X4_isClient l D cy (nI i)) (va_cwS 1 hts gX4_answer_X4_isClient rfl rfl rfl (by decide +kernel) ⟨Nat.le_of_ble_eq_true rfl, Nat.le_of_ble_eq_true rfl⟩) (gpSR hG (hP.sub [] rfl)) rfl rfl hl.1 rfl (lv_room (Nat.le_of_ble_eq_true rfl)) dX4_answer_2 ⟨Nat.zero_le _, Nat.zero_le _⟩) ?_
  refine lv_if_ne (tgt := 12) hx hb dX4_answer_5 (by decide) (fun c_5 => ?_) (fun c_5 => ?_)
  · skip
    have c_5 : pIn (nI i) 0 1 := gb_ne0.mp c_5
    refine lv_aload_n hx hb dX4_answer_12 rfl (lv_at hl 0 rfl) ?_
    refine va_get (D := D) (ci := 4) (v := .ref (q 3)) (C := RX4) (T := TX4) (N := 17) hx hb hts iX4_answer_X4 hown hG.1 hP 0 rfl rfl 3 (by decide) (hts (.fieldLink RX4 16 "DirtyTilesModel" "isIn" "[Z") (by decide +kernel)) (fun _ h9 => h9) rfl dX4_answer_13 ?_
    refine lv_iload_n hx hb dX4_answer_16 rfl (lv_at hl 1 rfl) ?_
    refine g_zald hx hb hG hP 1 2 rfl rfl (k := i) (by omega) (by decide) dX4_answer_17 ?_
    refine g_ti (y := gb (J)) (hj) ?_
    refine lv_if_eq (tgt := 30) hx hb dX4_answer_18 (by decide) (fun c_18 => ?_) (fun c_18 => ?_)
    · skip
      have c_18 : ¬ (J) := gb_eq0.mp c_18
      exact absurd (hJ) c_18
    · skip
      have c_18 : J := gb_ne0.mp c_18
      refine lv_aload_n hx hb dX4_answer_21 rfl (lv_at hl 0 rfl) ?_
      refine va_get (D := D) (ci := 4) (v := .ref (q 13)) (C := RX4) (T := TX4) (N := 17) hx hb hts iX4_answer_X4 hown hG.1 hP 0 rfl rfl 13 (by decide) (hts (.fieldLink RX4 47 "DirtyTilesModel" "waiting" "[I") (by decide +kernel)) (fun _ h9 => h9) rfl dX4_answer_22 ?_
      refine lv_iload_n hx hb dX4_answer_25 rfl (lv_at hl 1 rfl) ?_
      refine g_iald hx hb hG hP 7 0 rfl rfl (k := i) (by omega) (by decide) dX4_answer_26 ?_
      refine g_ti (y := nI M.length) (hwa) ?_
      refine lv_if_ne (tgt := 34) hx hb dX4_answer_27 (by decide) (fun c_27 => ?_) (fun c_27 => ?_)
      · skip
        have c_27 : ¬ M.length = 0 := fun z => c_27 ((nI_eq (a := M.length) (b := 0) (by omega) (by omega)).mpr z)
        refine lv_iconst (v := nI 0) hx hb dX4_answer_34 (by decide) ?_
        refine gc_Wi (wn := fun u => [(q 0, eMod (nI 0) q U), (q 3, eZ cy 2 is), (q 4, eI cy 384 ss9), (q 7, eI cy 224 ow), (q 8, eI cy 2 zo), (q 11, eI cy 24 se), (q 12, eI cy 384 ce), (q 13, eI cy 2 wa), (q 16, eI cy 16 tl9)]) (wr := [(q 3, eZ cy 2 is), (q 4, eI cy 384 ss9), (q 7, eI cy 224 ow), (q 8, eI cy 2 zo), (q 11, eI cy 24 se), (q 12, eI cy 384 ce), (q 13, eI cy 2 wa), (q 16, eI cy 16 tl9)]) (va_runV (As := [.int (nI 0)]) (rest := []) ⟨hx, hb, hml, hown, hts⟩ (c_X4_goesWell l D cy H.size q T U 0 (by decide)) (cwV 1 hts gX4_answer_X4_goesWell rfl rfl rfl (by decide +kernel) ⟨Nat.le_of_ble_eq_true rfl, Nat.le_of_ble_eq_true rfl⟩) (gpVI (ci := 4) (q0 := 0) hG (hP.sub [0] rfl) (hD.sub [0] (by decide) rfl) rfl rfl) rfl rfl hl.1 rfl (lv_room (Nat.le_of_ble_eq_true rfl)) dX4_answer_35 ⟨Nat.zero_le _, Nat.zero_le _⟩) hP hD hS hA [0] [1, 2, 3, 4, 5, 6, 7, 8] [8, 0, 1, 2, 3, 4, 5, 6, 7] rfl rfl (by decide) (by decide) (fun _ => rfl) (by decide) (fun r_35 _u H locs hw_35 hP hD hS => ?_)
        have hP : va_P D vwCl [(q 0, eMod (nI 0) q U), (q 3, eZ cy 2 is), (q 4, eI cy 384 ss9), (q 7, eI cy 224 ow), (q 8, eI cy 2 zo), (q 11, eI cy 24 se), (q 12, eI cy 384 ce), (q 13, eI cy 2 wa), (q 16, eI cy 16 tl9)] H := hP
        have hD : va_D AA [(q 0, eMod (nI 0) q U), (q 3, eZ cy 2 is), (q 4, eI cy 384 ss9), (q 7, eI cy 224 ow), (q 8, eI cy 2 zo), (q 11, eI cy 24 se), (q 12, eI cy 384 ce), (q 13, eI cy 2 wa), (q 16, eI cy 16 tl9)] := hD
        obtain ⟨hr_35, hw_35⟩ := hw_35
        refine g_ti (y := gb (0 = 0)) hr_35 ?_
        have hw_35 : True := hw_35
        refine lv_if_ne (tgt := 43) hx hb dX4_answer_38 (by decide) (fun c_38 => ?_) (fun c_38 => ?_)
        · skip
          have c_38 : 0 = 0 := gb_ne0.mp c_38
          refine lv_aload_n hx hb dX4_answer_43 rfl (lv_at hl 0 rfl) ?_
          refine va_get (D := D) (ci := 4) (v := .ref (q 13)) (C := RX4) (T := TX4) (N := 17) hx hb hts iX4_answer_X4 hown hG.1 hP 0 rfl rfl 13 (by decide) (hts (.fieldLink RX4 47 "DirtyTilesModel" "waiting" "[I") (by decide +kernel)) (fun _ h9 => h9) rfl dX4_answer_44 ?_
          refine lv_iload_n hx hb dX4_answer_47 rfl (lv_at hl 1 rfl) ?_
          refine g_iald hx hb hG hP 7 0 rfl rfl (k := i) (by omega) (by decide) dX4_answer_48 ?_
          refine g_ti (y := nI M.length) (hwa) ?_
          refine lv_istore_n (lv' := [(2, .int (nI M.length)), (0, .ref (q 0)), (1, .int (nI i))]) hx hb dX4_answer_49 rfl hl (by decide) rfl (fun ls hl => ?_)
          refine lv_iconst (v := nI 0) hx hb dX4_answer_50 (by decide) ?_
          refine lv_istore_n (lv' := [(3, .int (nI 0)), (2, .int (nI M.length)), (0, .ref (q 0)), (1, .int (nI i))]) hx hb dX4_answer_51 rfl hl (by decide) rfl (fun ls hl => ?_)
          have loop_52 : ∀ (n9 : Nat) (j : Nat) (P : List Int64) (ss1 ow1 zo1 tl1 : Nat → Int32), M.length - j < n9 → (j ≤ M.length) → (hSo (scrF (M.take j) So) ss1 i ∧ kO 192 i ss9 ss1) → (P = cchF (M.take j) O) → (hCo P ow1 i ∧ zo1 i = nI P.length ∧ P.length ≤ 6 ∧ kO 112 i ow ow1 ∧ kO 1 i zo zo1) → ∀ (H : Heap) (locs : List Loc) (ls : Array Slot), va_P D vwCl [(q 0, eMod (nI 0) q U), (q 3, eZ cy 2 is), (q 4, eI cy 384 ss1), (q 7, eI cy 224 ow1), (q 8, eI cy 2 zo1), (q 11, eI cy 24 se), (q 12, eI cy 384 ce), (q 13, eI cy 2 wa), (q 16, eI cy 16 tl1)] H → va_D AA [(q 0, eMod (nI 0) q U), (q 3, eZ cy 2 is), (q 4, eI cy 384 ss1), (q 7, eI cy 224 ow1), (q 8, eI cy 2 zo1), (q 11, eI cy 24 se), (q 12, eI cy 384 ce), (q 13, eI cy 2 wa), (q 16, eI cy 16 tl1)] → va_S AA ss.heap H locs → lv_has ls 6 [(0, .ref (q 0)), (1, .int (nI i)), (2, .int (nI M.length)), (3, .int (nI j))] → W pp l ee ({ frames := 2, cells := 0, slots := 0, locals := 46 } : Room) ss mm ([.ref (q 0), .int (nI i)] : List Value).toArray bw mt cd H locs 0 0 QQ (F0 mm 52 ls []) := by
            intro n9
            induction n9 with
            | zero => intro j P ss1 ow1 zo1 tl1 h9; exact absurd h9 (Nat.not_lt_zero _)
            | succ n9 ih_52 =>
              intro j P ss1 ow1 zo1 tl1 hm_52 hj9 hs1 hp9 ho1 H locs ls hP hD hS hl
              refine lv_iload_n hx hb dX4_answer_52 rfl (lv_at hl 3 rfl) ?_
              refine lv_iload_n hx hb dX4_answer_53 rfl (lv_at hl 2 rfl) ?_
              refine lv_icmp_ge (tgt := 142) hx hb dX4_answer_54 (by decide) (fun c_54 => ?_) (fun c_54 => ?_)
              · skip
                have c_54 : M.length ≤ j := (nI_leI (a := M.length) (b := j) (by omega) (by omega)).mp c_54
                refine lv_aload_n hx hb dX4_answer_142 rfl (lv_at hl 0 rfl) ?_
                refine va_get (D := D) (ci := 4) (v := .ref (q 13)) (C := RX4) (T := TX4) (N := 17) hx hb hts iX4_answer_X4 hown hG.1 hP 0 rfl rfl 13 (by decide) (hts (.fieldLink RX4 47 "DirtyTilesModel" "waiting" "[I") (by decide +kernel)) (fun _ h9 => h9) rfl dX4_answer_143 ?_
                refine lv_iload_n hx hb dX4_answer_146 rfl (lv_at hl 1 rfl) ?_
                refine lv_iconst (v := nI 0) hx hb dX4_answer_147 (by decide) ?_
                refine g_iast hx hb hG hP hD hS 7 0 rfl rfl (k := i) (by omega) (by decide) dX4_answer_148 (fun H locs hP hD hS => ?_)
                have hP : va_P D vwCl [(q 0, eMod (nI 0) q U), (q 3, eZ cy 2 is), (q 4, eI cy 384 ss1), (q 7, eI cy 224 ow1), (q 8, eI cy 2 zo1), (q 11, eI cy 24 se), (q 12, eI cy 384 ce), (q 13, eI cy 2 (upd wa i (nI 0))), (q 16, eI cy 16 tl1)] H := hP
                have hD : va_D AA [(q 0, eMod (nI 0) q U), (q 3, eZ cy 2 is), (q 4, eI cy 384 ss1), (q 7, eI cy 224 ow1), (q 8, eI cy 2 zo1), (q 11, eI cy 24 se), (q 12, eI cy 384 ce), (q 13, eI cy 2 (upd wa i (nI 0))), (q 16, eI cy 16 tl1)] := hD
                refine lv_iload_n hx hb dX4_answer_149 rfl (lv_at hl 2 rfl) ?_
                have e9 : j = M.length := by omega
                rw [e9, List.take_length] at hs1 hp9
                rw [hp9] at ho1
                exact hret _ _ _ _ _ ⟨ss1, ow1, zo1, upd wa i (nI 0), tl1⟩ dX4_answer_150 (⟨rfl, hs1, ho1, pk_us, kO_up (kO_rf _ _ _) ⟨by omega, by omega⟩⟩) (hP.sub [0, 1, 2, 3, 4, 5, 6, 7, 8] rfl) (hD.sub [0, 1, 2, 3, 4, 5, 6, 7, 8] (by decide) rfl) hS
              · skip
                have c_54 : ¬ M.length ≤ j := fun z => c_54 ((nI_leI (a := M.length) (b := j) (by omega) (by omega)).mpr z)
                refine lv_bipush (v := nI 12) hx hb dX4_answer_57 (by decide) ?_
                refine lv_iload_n hx hb dX4_answer_59 rfl (lv_at hl 1 rfl) ?_
                refine lv_imul hx hb dX4_answer_60 ?_
                refine g_ti (y := nI (12 * i)) (pk_mul _ _) ?_
                refine lv_iload_n hx hb dX4_answer_61 rfl (lv_at hl 3 rfl) ?_
                refine lv_iadd hx hb dX4_answer_62 ?_
                refine g_ti (y := nI ((12 * i) + j)) (nI_add _ _) ?_
                refine lv_istore (lv' := [(4, .int (nI ((12 * i) + j))), (0, .ref (q 0)), (1, .int (nI i)), (2, .int (nI M.length)), (3, .int (nI j))]) hx hb dX4_answer_63 hl (by decide) rfl (fun ls hl => ?_)
                refine lv_iconst (v := nI 0) hx hb dX4_answer_65 (by decide) ?_
                refine lv_istore (lv' := [(5, .int (nI 0)), (4, .int (nI ((12 * i) + j))), (0, .ref (q 0)), (1, .int (nI i)), (2, .int (nI M.length)), (3, .int (nI j))]) hx hb dX4_answer_66 hl (by decide) rfl (fun ls hl => ?_)
                have loop_68 : ∀ (n9 : Nat) (k : Nat) (ss2 tl2 : Nat → Int32), 16 - k < n9 → (k ≤ 16) → (hSk (scrF (M.take j) So) (mT M j) (mX M j) k ss2 i ∧ kO 192 i ss1 ss2) → (∀ m, m < k → tl2 m = nI (cel (mX M j) m)) → ∀ (H : Heap) (locs : List Loc) (ls : Array Slot), va_P D vwCl [(q 0, eMod (nI 0) q U), (q 3, eZ cy 2 is), (q 4, eI cy 384 ss2), (q 7, eI cy 224 ow1), (q 8, eI cy 2 zo1), (q 11, eI cy 24 se), (q 12, eI cy 384 ce), (q 13, eI cy 2 wa), (q 16, eI cy 16 tl2)] H → va_D AA [(q 0, eMod (nI 0) q U), (q 3, eZ cy 2 is), (q 4, eI cy 384 ss2), (q 7, eI cy 224 ow1), (q 8, eI cy 2 zo1), (q 11, eI cy 24 se), (q 12, eI cy 384 ce), (q 13, eI cy 2 wa), (q 16, eI cy 16 tl2)] → va_S AA ss.heap H locs → lv_has ls 6 [(0, .ref (q 0)), (1, .int (nI i)), (2, .int (nI M.length)), (3, .int (nI j)), (4, .int (nI (12 * i + j))), (5, .int (nI k))] → W pp l ee ({ frames := 2, cells := 0, slots := 0, locals := 46 } : Room) ss mm ([.ref (q 0), .int (nI i)] : List Value).toArray bw mt cd H locs 0 0 QQ (F0 mm 68 ls []) := by
                  intro n9
                  induction n9 with
                  | zero => intro k ss2 tl2 h9; exact absurd h9 (Nat.not_lt_zero _)
                  | succ n9 ih_68 =>
                    intro k ss2 tl2 hm_68 hk hk1 hk2 H locs ls hP hD hS hl
                    have zc : k < 16 → cof (mT M j) k < 192 := fun z => cof_lt (ho j (by omega)) z
                    refine lv_iload hx hb dX4_answer_68 (lv_at hl 5 rfl) ?_
                    refine lv_bipush (v := nI 16) hx hb dX4_answer_70 (by decide) ?_
                    refine lv_icmp_ge (tgt := 131) hx hb dX4_answer_72 (by decide) (fun c_72 => ?_) (fun c_72 => ?_)
                    · skip
                      have c_72 : 16 ≤ k := (nI_leI (a := 16) (b := k) (by omega) (by omega)).mp c_72
                      have k16 : k = 16 := by omega
                      refine lv_aload_n hx hb dX4_answer_131 rfl (lv_at hl 0 rfl) ?_
                      refine lv_iload_n hx hb dX4_answer_132 rfl (lv_at hl 1 rfl) ?_
                      refine gc_Wv (wn := fun u => [(q 0, eMod (nI 0) q U), (q 3, eZ cy 2 is), (q 4, eI cy 384 ss2), (q 7, eI cy 224 u.1), (q 8, eI cy 2 u.2), (q 11, eI cy 24 se), (q 12, eI cy 384 ce), (q 13, eI cy 2 wa), (q 16, eI cy 16 tl2)]) (wr := [(q 3, eZ cy 2 is), (q 4, eI cy 384 ss2), (q 11, eI cy 24 se), (q 12, eI cy 384 ce), (q 13, eI cy 2 wa)]) (va_runV (As := [.int (nI i)]) (rest := []) ⟨hx, hb, hml, hown, hts⟩ (c_X4_cacheOwn l D cy H.size q (nI 0) U ow1 zo1 tl2 P (mX M j) i hi ho1.1 ho1.2.1 ho1.2.2.1 (fun m hm => hk2 m (by omega))) (cwV 1 hts gX4_answer_X4_cacheOwn rfl rfl rfl (by decide +kernel) ⟨Nat.le_of_ble_eq_true rfl, Nat.le_of_ble_eq_true rfl⟩) (gpVI (ci := 4) (q0 := 0) hG (hP.sub [0, 3, 4, 8] rfl) (hD.sub [0, 3, 4, 8] (by decide) rfl) rfl rfl) rfl rfl hl.1 rfl (lv_room (Nat.le_of_ble_eq_true rfl)) dX4_answer_133 ⟨Nat.zero_le _, Nat.zero_le _⟩) hP hD hS hA [0, 3, 4, 8] [1, 2, 5, 6, 7] [5, 0, 1, 6, 7, 2, 3, 4, 8] rfl rfl (by decide) (by decide) (fun _ => rfl) (by decide) (fun u9 H locs hw_133 hP hD hS => ?_)
                      obtain ⟨ow3, zo3⟩ := u9
                      have hP : va_P D vwCl [(q 0, eMod (nI 0) q U), (q 3, eZ cy 2 is), (q 4, eI cy 384 ss2), (q 7, eI cy 224 ow3), (q 8, eI cy 2 zo3), (q 11, eI cy 24 se), (q 12, eI cy 384 ce), (q 13, eI cy 2 wa), (q 16, eI cy 16 tl2)] H := hP
                      have hD : va_D AA [(q 0, eMod (nI 0) q U), (q 3, eZ cy 2 is), (q 4, eI cy 384 ss2), (q 7, eI cy 224 ow3), (q 8, eI cy 2 zo3), (q 11, eI cy 24 se), (q 12, eI cy 384 ce), (q 13, eI cy 2 wa), (q 16, eI cy 16 tl2)] := hD
                      have hw_133 : hCo (brg P (mX M j)) ow3 i ∧ zo3 i = nI (brg P (mX M j)).length ∧ kO 112 i ow1 ow3 ∧ kO 1 i zo1 zo3 := hw_133
                      refine lv_iinc (v := nI (j + 1)) (lv' := [(3, .int (nI (j + 1))), (0, .ref (q 0)), (1, .int (nI i)), (2, .int (nI M.length)), (4, .int (nI (12 * i + j))), (5, .int (nI k))]) hx hb dX4_answer_136 hl (k := 3) rfl (nI_1 _) (by decide) rfl (fun ls hl => ?_)
                      refine lv_goto (tgt := 52) hx hb dX4_answer_139 (by decide) ?_
                      exact ih_52 (j + 1) (brg P (mX M j)) ss2 ow3 zo3 tl2 (by omega) (by omega) ⟨by rw [← scrF_step (f := So) (i := j) (by omega) rfl]; rw [k16] at hk1; exact hSk_e hk1.1, kO_tr hs1.2 hk1.2⟩ (cchF_step (by omega) hp9) ⟨hw_133.1, hw_133.2.1, brg_le _ _, kO_tr ho1.2.2.2.1 hw_133.2.2.1, kO_tr ho1.2.2.2.2 hw_133.2.2.2⟩ _ _ _ (hP.sub [0, 1, 2, 3, 4, 5, 6, 7, 8] rfl) (hD.sub [0, 1, 2, 3, 4, 5, 6, 7, 8] (by decide) rfl) hS (lv_sub hl [1, 2, 3, 0] rfl)
                    · skip
                      have c_72 : ¬ 16 ≤ k := fun z => c_72 ((nI_leI (a := 16) (b := k) (by omega) (by omega)).mpr z)
                      refine lv_aload_n hx hb dX4_answer_75 rfl (lv_at hl 0 rfl) ?_
                      refine va_get (D := D) (ci := 4) (v := .ref (q 16)) (C := RX4) (T := TX4) (N := 17) hx hb hts iX4_answer_X4 hown hG.1 hP 0 rfl rfl 16 (by decide) (hts (.fieldLink RX4 53 "DirtyTilesModel" "tile" "[I") (by decide +kernel)) (fun _ h9 => h9) rfl dX4_answer_76 ?_
                      refine lv_iload hx hb dX4_answer_79 (lv_at hl 5 rfl) ?_
                      refine lv_aload_n hx hb dX4_answer_81 rfl (lv_at hl 0 rfl) ?_
                      refine va_get (D := D) (ci := 4) (v := .ref (q 12)) (C := RX4) (T := TX4) (N := 17) hx hb hts iX4_answer_X4 hown hG.1 hP 0 rfl rfl 12 (by decide) (hts (.fieldLink RX4 44 "DirtyTilesModel" "cells" "[I") (by decide +kernel)) (fun _ h9 => h9) rfl dX4_answer_82 ?_
                      refine lv_bipush (v := nI 16) hx hb dX4_answer_85 (by decide) ?_
                      refine lv_iload hx hb dX4_answer_87 (lv_at hl 4 rfl) ?_
                      refine lv_imul hx hb dX4_answer_89 ?_
                      refine g_ti (y := nI (16 * (12 * i + j))) (pk_mul _ _) ?_
                      refine lv_iload hx hb dX4_answer_90 (lv_at hl 5 rfl) ?_
                      refine lv_iadd hx hb dX4_answer_92 ?_
                      refine g_ti (y := nI ((16 * (12 * i + j)) + k)) (nI_add _ _) ?_
                      refine g_iald hx hb hG hP 6 0 rfl rfl (k := (16 * (12 * i + j)) + k) (by omega) (by decide) dX4_answer_93 ?_
                      refine g_ti (y := nI (cel (mX M j) k)) ((hM9 j (by omega)).2 k (by omega)) ?_
                      refine g_iast hx hb hG hP hD hS 8 0 rfl rfl (k := k) (by omega) (by decide) dX4_answer_94 (fun H locs hP hD hS => ?_)
                      have hP : va_P D vwCl [(q 0, eMod (nI 0) q U), (q 3, eZ cy 2 is), (q 4, eI cy 384 ss2), (q 7, eI cy 224 ow1), (q 8, eI cy 2 zo1), (q 11, eI cy 24 se), (q 12, eI cy 384 ce), (q 13, eI cy 2 wa), (q 16, eI cy 16 (upd tl2 k (nI (cel (mX M j) k))))] H := hP
                      have hD : va_D AA [(q 0, eMod (nI 0) q U), (q 3, eZ cy 2 is), (q 4, eI cy 384 ss2), (q 7, eI cy 224 ow1), (q 8, eI cy 2 zo1), (q 11, eI cy 24 se), (q 12, eI cy 384 ce), (q 13, eI cy 2 wa), (q 16, eI cy 16 (upd tl2 k (nI (cel (mX M j) k))))] := hD
                      refine lv_aload_n hx hb dX4_answer_95 rfl (lv_at hl 0 rfl) ?_
                      refine va_get (D := D) (ci := 4) (v := .ref (q 4)) (C := RX4) (T := TX4) (N := 17) hx hb hts iX4_answer_X4 hown hG.1 hP 0 rfl rfl 4 (by decide) (hts (.fieldLink RX4 20 "DirtyTilesModel" "screens" "[I") (by decide +kernel)) (fun _ h9 => h9) rfl dX4_answer_96 ?_
                      refine lv_sipush (v := nI 192) hx hb dX4_answer_99 (by decide) ?_
                      refine lv_iload_n hx hb dX4_answer_102 rfl (lv_at hl 1 rfl) ?_
                      refine lv_imul hx hb dX4_answer_103 ?_
                      refine g_ti (y := nI (192 * i)) (pk_mul _ _) ?_
                      refine lv_aload_n hx hb dX4_answer_104 rfl (lv_at hl 0 rfl) ?_
                      refine va_get (D := D) (ci := 4) (v := .ref (q 11)) (C := RX4) (T := TX4) (N := 17) hx hb hts iX4_answer_X4 hown hG.1 hP 0 rfl rfl 11 (by decide) (hts (.fieldLink RX4 41 "DirtyTilesModel" "sent" "[I") (by decide +kernel)) (fun _ h9 => h9) rfl dX4_answer_105 ?_
                      refine lv_iload hx hb dX4_answer_108 (lv_at hl 4 rfl) ?_
                      refine g_iald hx hb hG hP 5 0 rfl rfl (k := 12 * i + j) (by omega) (by decide) dX4_answer_110 ?_
                      refine g_ti (y := nI (mT M j)) ((hM9 j (by omega)).1) ?_
                      refine lv_iload hx hb dX4_answer_111 (lv_at hl 5 rfl) ?_
                      refine gc_Si (va_runS (As := [.int (nI (mT M j)), .int (nI k)]) (rest := [.int (nI (192 * i)), .ref (q 4)]) ⟨hx, hb, hml, hown, hts⟩ (c_X4_cellOf l D cy (mT M j) k (ho j (by omega)) (by omega)) (va_cwS 2 hts gX4_answer_X4_cellOf rfl rfl rfl (by decide +kernel) ⟨Nat.le_of_ble_eq_true rfl, Nat.le_of_ble_eq_true rfl⟩) (gpSR hG (hP.sub [] rfl)) rfl rfl hl.1 rfl (lv_room (Nat.le_of_ble_eq_true rfl)) dX4_answer_113 ⟨Nat.zero_le _, Nat.zero_le _⟩) ?_
                      refine lv_iadd hx hb dX4_answer_116 ?_
                      refine g_ti (y := nI ((192 * i) + (cof (mT M j) k))) (nI_add _ _) ?_
                      refine lv_aload_n hx hb dX4_answer_117 rfl (lv_at hl 0 rfl) ?_
                      refine va_get (D := D) (ci := 4) (v := .ref (q 16)) (C := RX4) (T := TX4) (N := 17) hx hb hts iX4_answer_X4 hown hG.1 hP 0 rfl rfl 16 (by decide) (hts (.fieldLink RX4 53 "DirtyTilesModel" "tile" "[I") (by decide +kernel)) (fun _ h9 => h9) rfl dX4_answer_118 ?_
                      refine lv_iload hx hb dX4_answer_121 (lv_at hl 5 rfl) ?_
                      refine g_iald hx hb hG hP 8 0 rfl rfl (k := k) (by omega) (by decide) dX4_answer_123 ?_
                      refine g_ti (y := nI (cel (mX M j) k)) (pk_us) ?_
                      refine g_iast hx hb hG hP hD hS 2 0 rfl rfl (k := (192 * i) + (cof (mT M j) k)) (by have := zc (by omega); omega) (by decide) dX4_answer_124 (fun H locs hP hD hS => ?_)
                      have hP : va_P D vwCl [(q 0, eMod (nI 0) q U), (q 3, eZ cy 2 is), (q 4, eI cy 384 (upd ss2 ((192 * i) + (cof (mT M j) k)) (nI (cel (mX M j) k)))), (q 7, eI cy 224 ow1), (q 8, eI cy 2 zo1), (q 11, eI cy 24 se), (q 12, eI cy 384 ce), (q 13, eI cy 2 wa), (q 16, eI cy 16 (upd tl2 k (nI (cel (mX M j) k))))] H := hP
                      have hD : va_D AA [(q 0, eMod (nI 0) q U), (q 3, eZ cy 2 is), (q 4, eI cy 384 (upd ss2 ((192 * i) + (cof (mT M j) k)) (nI (cel (mX M j) k)))), (q 7, eI cy 224 ow1), (q 8, eI cy 2 zo1), (q 11, eI cy 24 se), (q 12, eI cy 384 ce), (q 13, eI cy 2 wa), (q 16, eI cy 16 (upd tl2 k (nI (cel (mX M j) k))))] := hD
                      refine lv_iinc (v := nI (k + 1)) (lv' := [(5, .int (nI (k + 1))), (0, .ref (q 0)), (1, .int (nI i)), (2, .int (nI M.length)), (3, .int (nI j)), (4, .int (nI (12 * i + j)))]) hx hb dX4_answer_125 hl (k := 5) rfl (nI_1 _) (by decide) rfl (fun ls hl => ?_)
                      refine lv_goto (tgt := 68) hx hb dX4_answer_128 (by decide) ?_
                      exact ih_68 (k + 1) (upd ss2 ((192 * i) + (cof (mT M j) k)) (nI (cel (mX M j) k))) (upd tl2 k (nI (cel (mX M j) k))) (by omega) (by omega) ⟨hSk_s hk1.1 (by omega), kO_up hk1.2 ⟨by omega, by have := zc (by omega); omega⟩⟩ (g_covI hk2 rfl) _ _ _ (hP.sub [0, 1, 2, 3, 4, 5, 6, 7, 8] rfl) (hD.sub [0, 1, 2, 3, 4, 5, 6, 7, 8] (by decide) rfl) hS (lv_sub hl [1, 2, 3, 4, 5, 0] rfl)
                exact loop_68 ((16 - 0) + 1) 0 ss1 tl1 (Nat.lt_succ_self _) (by omega) ⟨hSk_0 hs1.1, kO_rf _ _ _⟩ (fun m hm => absurd hm (Nat.not_lt_zero m)) _ _ _ (hP.sub [0, 1, 2, 3, 4, 5, 6, 7, 8] rfl) (hD.sub [0, 1, 2, 3, 4, 5, 6, 7, 8] (by decide) rfl) hS (lv_sub hl [2, 3, 4, 5, 1, 0] rfl)
          exact loop_52 ((M.length - 0) + 1) 0 O ss9 ow zo tl9 (Nat.lt_succ_self _) (by omega) ⟨hso, kO_rf _ _ _⟩ rfl ⟨how, hzo, hO, kO_rf _ _ _, kO_rf _ _ _⟩ _ _ _ (hP.sub [0, 1, 2, 3, 4, 5, 6, 7, 8] rfl) (hD.sub [0, 1, 2, 3, 4, 5, 6, 7, 8] (by decide) rfl) hS (lv_sub hl [2, 3, 1, 0] rfl)
        · skip
          have c_38 : ¬ (0 = 0) := gb_eq0.mp c_38
          exact absurd (by decide) c_38
      · skip
        have c_27 : M.length = 0 := (nI_eq (a := M.length) (b := 0) (by omega) (by omega)).mp c_27
        exact absurd c_27 (by omega)
  · skip
    have c_5 : ¬ (pIn (nI i) 0 1) := gb_eq0.mp c_5
    exact absurd (ok_idx (n := 1) (by omega) (by decide)) c_5
