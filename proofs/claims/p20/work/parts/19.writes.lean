/-! the class: calls that write -/
/-! drawings, cell by cell -/
abbrev at2 (f : Nat → Int64) (c r : Nat) : Nat := cel (f (tl c r)) (plc c r)
theorem tp_inj {c r x y : Nat} (hc : c < 16) (hx : x < 16) (h1 : tl c r = tl x y) (h2 : plc c r = plc x y) : c = x ∧ r = y := by
  have h1 : 4 * (r / 4) + c / 4 = 4 * (y / 4) + x / 4 := h1
  have h2 : 4 * (r % 4) + c % 4 = 4 * (y % 4) + x % 4 := h2
  omega
theorem paint_at {f : Nat → Int64} {x y v c r : Nat} (hx : x < 16) (hv : v < 16) (hc : c < 16) : at2 (vp_updL f (tl x y) (gput (f (tl x y)) (plc x y) v)) c r = if c = x ∧ r = y then v else at2 f c r := by
  show cel (vp_updL f (tl x y) (gput (f (tl x y)) (plc x y) v) (tl c r)) (plc c r) = _
  by_cases ht : tl c r = tl x y
  · rw [ht, pk_uLs, cel_put (plc_lt x y) hv (plc_lt c r)]
    by_cases hp : plc c r = plc x y
    · rw [if_pos hp, if_pos (tp_inj hc hx ht hp)]
    · rw [if_neg hp, if_neg (fun h => hp (by rw [h.1, h.2]))]
      show _ = cel (f (tl c r)) (plc c r)
      rw [ht]
  · rw [pk_uLn ht, if_neg (fun h => ht (by rw [h.1, h.2]))]
/-- a screen all of whose cells are told -/
def gD (f : Nat → Int64) (val : Nat → Nat → Nat) : Prop := ∀ c r, c < 16 → r < 12 → at2 f c r = val c r
def valF (f : Nat → Int64) (c r w v y x : Nat) : Nat → Nat → Nat := fun c' r' => if (c ≤ c' ∧ c' < c + w ∧ r ≤ r' ∧ r' < y) ∨ (r' = y ∧ c ≤ c' ∧ c' < x) then v else at2 f c' r'
theorem valF_0 (f : Nat → Int64) (c r w v : Nat) : gD f (valF f c r w v r c) := fun c' r' _ _ => by
  unfold valF; rw [if_neg (by omega)]
theorem valF_x {f g : Nat → Int64} {c r w v y x : Nat} (h : gD g (valF f c r w v y x)) (hx : x < 16) (hcx : c ≤ x) (hv : v < 16) : gD (vp_updL g (tl x y) (gput (g (tl x y)) (plc x y) v)) (valF f c r w v y (x + 1)) := fun c' r' hc hr => by
  rw [paint_at hx hv hc]
  unfold valF
  by_cases e : c' = x ∧ r' = y
  · rw [if_pos e, if_pos (Or.inr ⟨e.2, by omega, by omega⟩)]
  · rw [if_neg e, h c' r' hc hr]
    unfold valF
    by_cases z : (c ≤ c' ∧ c' < c + w ∧ r ≤ r' ∧ r' < y) ∨ (r' = y ∧ c ≤ c' ∧ c' < x)
    · rw [if_pos z, if_pos (by omega)]
    · rw [if_neg z, if_neg (by omega)]
theorem valF_y {f g : Nat → Int64} {c r w v y x : Nat} (h : gD g (valF f c r w v y x)) (hx : x = c + w) (hy : r ≤ y) : gD g (valF f c r w v (y + 1) c) := fun c' r' hc hr => by
  rw [h c' r' hc hr]
  unfold valF
  by_cases z : (c ≤ c' ∧ c' < c + w ∧ r ≤ r' ∧ r' < y) ∨ (r' = y ∧ c ≤ c' ∧ c' < x)
  · rw [if_pos z, if_pos (by omega)]
  · rw [if_neg z, if_neg (by omega)]
/-- what a fill leaves -/
def finF (f : Nat → Int64) (c r w h v : Nat) : Nat → Nat → Nat := fun c' r' => if c ≤ c' ∧ c' < c + w ∧ r ≤ r' ∧ r' < r + h then v else at2 f c' r'
theorem valF_e {f g : Nat → Int64} {c r w h v y : Nat} (hd : gD g (valF f c r w v y c)) (hy : y = r + h) : gD g (finF f c r w h v) := fun c' r' hc hr => by
  rw [hd c' r' hc hr]
  unfold valF finF
  by_cases z : c ≤ c' ∧ c' < c + w ∧ r ≤ r' ∧ r' < r + h
  · rw [if_pos z, if_pos (by omega)]
  · rw [if_neg z, if_neg (by omega)]
/-- the cell that a copy brings to a place -/
abbrev srcC (f : Nat → Int64) (dx dy : Int) (c' r' : Nat) : Nat := at2 f ((c' : Int) - dx).toNat ((r' : Int) - dy).toNat
def valC (f : Nat → Int64) (c r w y x : Nat) (dx dy : Int) : Nat → Nat → Nat := fun c' r' => if ((c : Int) ≤ c' - dx ∧ c' - dx < c + w ∧ r ≤ r' - dy ∧ r' - dy < y) ∨ (r' - dy = y ∧ (c : Int) ≤ c' - dx ∧ c' - dx < x) then srcC f dx dy c' r' else at2 f c' r'
def finC (f : Nat → Int64) (c r w h : Nat) (dx dy : Int) : Nat → Nat → Nat := fun c' r' => if (c : Int) ≤ c' - dx ∧ c' - dx < c + w ∧ r ≤ r' - dy ∧ r' - dy < r + h then srcC f dx dy c' r' else at2 f c' r'
theorem valC_0 (f : Nat → Int64) (c r w : Nat) (dx dy : Int) : gD f (valC f c r w r c dx dy) := fun c' r' _ _ => by
  unfold valC; rw [if_neg (by omega)]
theorem valC_x {f g : Nat → Int64} {c r w y x X Y v : Nat} {dx dy : Int} (h : gD g (valC f c r w y x dx dy)) (hX : (X : Int) = x + dx) (hY : (Y : Int) = y + dy) (hX6 : X < 16) (hcx : c ≤ x) (hv : v = at2 f x y) : gD (vp_updL g (tl X Y) (gput (g (tl X Y)) (plc X Y) v)) (valC f c r w y (x + 1) dx dy) := fun c' r' hc hr => by
  rw [paint_at hX6 (by rw [hv]; exact cel_lt _ _) hc]
  unfold valC
  by_cases e : c' = X ∧ r' = Y
  · rw [if_pos e, if_pos (Or.inr ⟨by omega, by omega, by omega⟩), hv]
    have e1 : ((c' : Int) - dx).toNat = x := by omega
    have e2 : ((r' : Int) - dy).toNat = y := by omega
    show _ = at2 f ((c' : Int) - dx).toNat ((r' : Int) - dy).toNat
    rw [e1, e2]
  · rw [if_neg e, h c' r' hc hr]
    unfold valC
    by_cases z : ((c : Int) ≤ c' - dx ∧ c' - dx < c + w ∧ r ≤ r' - dy ∧ r' - dy < y) ∨ (r' - dy = y ∧ (c : Int) ≤ c' - dx ∧ c' - dx < x)
    · rw [if_pos z, if_pos (by omega)]
    · rw [if_neg z, if_neg (by omega)]
theorem valC_n {f g : Nat → Int64} {c r w y x : Nat} {dx dy : Int} (h : gD g (valC f c r w y x dx dy)) (ho : ¬ (0 ≤ (x : Int) + dx ∧ (x : Int) + dx < 16 ∧ 0 ≤ (y : Int) + dy ∧ (y : Int) + dy < 12)) : gD g (valC f c r w y (x + 1) dx dy) := fun c' r' hc hr => by
  rw [h c' r' hc hr]
  unfold valC
  by_cases z : ((c : Int) ≤ c' - dx ∧ c' - dx < c + w ∧ r ≤ r' - dy ∧ r' - dy < y) ∨ (r' - dy = y ∧ (c : Int) ≤ c' - dx ∧ c' - dx < x)
  · rw [if_pos z, if_pos (by omega)]
  · rw [if_neg z, if_neg (by omega)]
theorem valC_y {f g : Nat → Int64} {c r w y x : Nat} {dx dy : Int} (h : gD g (valC f c r w y x dx dy)) (hx : x = c + w) (hy : r ≤ y) : gD g (valC f c r w (y + 1) c dx dy) := fun c' r' hc hr => by
  rw [h c' r' hc hr]
  unfold valC
  by_cases z : ((c : Int) ≤ c' - dx ∧ c' - dx < c + w ∧ r ≤ r' - dy ∧ r' - dy < y) ∨ (r' - dy = y ∧ (c : Int) ≤ c' - dx ∧ c' - dx < x)
  · rw [if_pos z, if_pos (by omega)]
  · rw [if_neg z, if_neg (by omega)]
theorem valC_e {f g : Nat → Int64} {c r w h y : Nat} {dx dy : Int} (hd : gD g (valC f c r w y c dx dy)) (hy : y = r + h) : gD g (finC f c r w h dx dy) := fun c' r' hc hr => by
  rw [hd c' r' hc hr]
  unfold valC finC
  by_cases z : (c : Int) ≤ c' - dx ∧ c' - dx < c + w ∧ r ≤ r' - dy ∧ r' - dy < r + h
  · rw [if_pos z, if_pos (by omega)]
  · rw [if_neg z, if_neg (by omega)]
theorem at2_cong {f g : Nat → Int64} (h : ∀ k, k < 12 → f k = g k) {c r : Nat} (hc : c < 16) (hr : r < 12) : at2 f c r = at2 g c r := by
  show cel (f (tl c r)) _ = cel (g (tl c r)) _
  rw [h _ (tl_lt hc hr)]
theorem addI {x : Nat} {d : Int32} (hx : x < 4096) (hd : pIn d (-4096) 4096) : (nI x + d).toInt = (x : Int) + d.toInt := by
  have h2 : (nI x).toInt = (x : Int) := nI_toInt (by omega)
  have h3 := hd.1
  have h4 := hd.2
  rw [fb_addI (by rw [h2]; omega) (by rw [h2]; omega), h2]
theorem addN {x : Nat} {d : Int32} (hx : x < 4096) (hd : pIn d (-4096) 4096) {n : Nat} (h : pIn (nI x + d) 0 n) (hn : n < 4096) : ∃ X : Nat, X ≤ n ∧ nI x + d = nI X ∧ (X : Int) = x + d.toInt := by
  obtain ⟨X, h1, h2⟩ := pIn_nat h
  refine ⟨X, h1, h2, ?_⟩
  have h3 := addI hx hd
  rw [h2, nI_toInt (by omega)] at h3
  exact h3
theorem iX3_fill_X3 : ∀ w ∈ wsX30, w ∈ wsX3_fill := by decide +kernel
set_option maxHeartbeats 4000000 in
set_option maxRecDepth 100000 in
theorem c_X3_fill (l : Launch) (D : va_G) (cy : Nat → ClassId) (sz : Nat) (fs fb : Nat → Int64) (a q r9 : Nat → Nat) (uw : Int32) (g : Nat → Option Nat) (J J9 : Prop) (k k9 : Int32) (L K : List Nat) (f h : Nat → Int32) (c r w m v : Nat) (hg0 : g 0 = some (q 0)) (hg1 : g 1 = some (r9 0)) (hL : hN L f) (ho : okD L) (hK : hN K h) (hk9 : okD K) (hc : c < 16) (hr : r < 12) (hw : 1 ≤ w ∧ w + c ≤ 16) (hh : 1 ≤ m ∧ m + r ≤ 12) (hv : v < 16) : Met l yX3_fill wsX3_fill ({ frames := 3, cells := 0, slots := 0, locals := 70 } : Room) (va_Pc [.ref (a 0), .int (nI c), .int (nI r), .int (nI w), .int (nI m), .int (nI v)] (gI D (gT cy) [(a 0, eTop (a 1) (a 3) (a 5) (a 6) uw), (a 1, eScr (a 2)), (a 2, eJ cy 12 fs), (a 3, eScr (a 4)), (a 4, eJ cy 12 fb), (a 5, eQ cy 2 g), (q 0, eCli (gb (J)) (q 1) (q 3) (q 5) (q 7) (nI L.length) (q 8) (q 9) k), (q 7, eI cy 12 f), (r9 0, eCli (gb (J9)) (r9 1) (r9 3) (r9 5) (r9 7) (nI K.length) (r9 8) (r9 9) k9), (r9 7, eI cy 12 h)] sz)) (va_Qi (fun (r9 : Int32) (u : (Nat → Int64) × (Nat → Int64) × (List Nat) × (List Nat) × (Nat → Int32) × (Nat → Int32)) => r9 = nI (sumD u.2.1 u.1 12) ∧ ((gD u.1 (finF fs c r w m v) ∧ (∀ k, k < 12 → u.2.1 k = fs k) ∧ u.2.2.1 = stlF J u.2.1 u.1 L 12 ∧ u.2.2.2.1 = stlF J9 u.2.1 u.1 K 12 ∧ hN u.2.2.1 u.2.2.2.2.1 ∧ hN u.2.2.2.1 u.2.2.2.2.2))) (gO D (fun u : (Nat → Int64) × (Nat → Int64) × (List Nat) × (List Nat) × (Nat → Int32) × (Nat → Int32) => [(a 0, eTop (a 1) (a 3) (a 5) (a 6) uw), (a 1, eScr (a 2)), (a 2, eJ cy 12 u.1), (a 3, eScr (a 4)), (a 4, eJ cy 12 u.2.1), (a 5, eQ cy 2 g), (q 0, eCli (gb (J)) (q 1) (q 3) (q 5) (q 7) (nI u.2.2.1.length) (q 8) (q 9) k), (q 7, eI cy 12 u.2.2.2.2.1), (r9 0, eCli (gb (J9)) (r9 1) (r9 3) (r9 5) (r9 7) (nI u.2.2.2.1.length) (r9 8) (r9 9) k9), (r9 7, eI cy 12 u.2.2.2.2.2)]) (va_A [(a 0, eTop (a 1) (a 3) (a 5) (a 6) uw), (a 1, eScr (a 2)), (a 2, eJ cy 12 fs), (a 3, eScr (a 4)), (a 4, eJ cy 12 fb), (a 5, eQ cy 2 g), (q 0, eCli (gb (J)) (q 1) (q 3) (q 5) (q 7) (nI L.length) (q 8) (q 9) k), (q 7, eI cy 12 f), (r9 0, eCli (gb (J9)) (r9 1) (r9 3) (r9 5) (r9 7) (nI K.length) (r9 8) (r9 9) k9), (r9 7, eI cy 12 h)] sz)) (va_A [(a 0, eTop (a 1) (a 3) (a 5) (a 6) uw), (a 1, eScr (a 2)), (a 2, eJ cy 12 fs), (a 3, eScr (a 4)), (a 4, eJ cy 12 fb), (a 5, eQ cy 2 g), (q 0, eCli (gb (J)) (q 1) (q 3) (q 5) (q 7) (nI L.length) (q 8) (q 9) k), (q 7, eI cy 12 f), (r9 0, eCli (gb (J9)) (r9 1) (r9 3) (r9 5) (r9 7) (nI K.length) (r9 8) (r9 9) k9), (r9 7, eI cy 12 h)] sz)) 0 0 (va_A [(a 0, eTop (a 1) (a 3) (a 5) (a 6) uw), (a 1, eScr (a 2)), (a 2, eJ cy 12 fs), (a 3, eScr (a 4)), (a 4, eJ cy 12 fb), (a 5, eQ cy 2 g), (q 0, eCli (gb (J)) (q 1) (q 3) (q 5) (q 7) (nI L.length) (q 8) (q 9) k), (q 7, eI cy 12 f), (r9 0, eCli (gb (J9)) (r9 1) (r9 3) (r9 5) (r9 7) (nI K.length) (r9 8) (r9 9) k9), (r9 7, eI cy 12 h)] sz) := by
  refine gW_i (cc := cX3_fill) (maxL := 8) (ty := .int) (by decide) rfl (Nat.le_of_ble_eq_true rfl) (fun v u hv => by rfl) ?_
  intro pp ee ss mm bw mt cd QQ AA ls hfx hP hG hD hA hret hl
  have hS : va_S AA ss.heap ss.heap [] := va_S.rf
  obtain ⟨H, eH⟩ : ∃ H, H = ss.heap := ⟨_, rfl⟩
  obtain ⟨locs, eL⟩ : ∃ L : List Loc, L = [] := ⟨_, rfl⟩
  have hP : va_P D vwCl [(a 0, eTop (a 1) (a 3) (a 5) (a 6) uw), (a 1, eScr (a 2)), (a 2, eJ cy 12 fs), (a 3, eScr (a 4)), (a 4, eJ cy 12 fb), (a 5, eQ cy 2 g), (q 0, eCli (gb (J)) (q 1) (q 3) (q 5) (q 7) (nI L.length) (q 8) (q 9) k), (q 7, eI cy 12 f), (r9 0, eCli (gb (J9)) (r9 1) (r9 3) (r9 5) (r9 7) (nI K.length) (r9 8) (r9 9) k9), (r9 7, eI cy 12 h)] H := by rw [eH]; exact hP
  have hS : va_S AA ss.heap H locs := by rw [eH, eL]; exact hS
  have goal : ∀ X Y, X = H → Y = locs → W pp l ee ({ frames := 3, cells := 0, slots := 0, locals := 70 } : Room) ss mm ([.ref (a 0), .int (nI c), .int (nI r), .int (nI w), .int (nI m), .int (nI v)] : List Value).toArray bw mt cd X Y 0 0 QQ (F0 mm 0 ls []) → W pp l ee ({ frames := 3, cells := 0, slots := 0, locals := 70 } : Room) ss mm ([.ref (a 0), .int (nI c), .int (nI r), .int (nI w), .int (nI m), .int (nI v)] : List Value).toArray bw mt cd ss.heap [] 0 0 QQ (F0 mm 0 ls []) := fun X Y hX hY h => by rw [hX, hY, eH, eL] at h; exact h
  refine goal H locs rfl rfl ?_
  clear goal eH eL
  obtain ⟨hx, hb, hml, hown, hts, hlocks⟩ := hfx
  have hown : ss.vm.findClass RX3 = some mm.cls := hown
  have hl : lv_has ls 8 [(0, .ref (a 0)), (1, .int (nI c)), (2, .int (nI r)), (3, .int (nI w)), (4, .int (nI m)), (5, .int (nI v))] := hl
  refine lv_iload_n hx hb dX3_fill_0 rfl (lv_at hl 1 rfl) ?_
  refine lv_iload_n hx hb dX3_fill_1 rfl (lv_at hl 2 rfl) ?_
  refine lv_iload_n hx hb dX3_fill_2 rfl (lv_at hl 3 rfl) ?_
  refine lv_iload hx hb dX3_fill_3 (lv_at hl 4 rfl) ?_
  refine gc_Si (va_runS (As := [.int (nI c), .int (nI r), .int (nI w), .int (nI m)]) (rest := []) ⟨hx, hb, hml, hown, hts⟩ (c_X3_isBox l D cy (nI c) (nI r) (nI w) (nI m)) (va_cwS 4 hts gX3_fill_X3_isBox rfl rfl rfl (by decide +kernel) ⟨Nat.le_of_ble_eq_true rfl, Nat.le_of_ble_eq_true rfl⟩) (gpSR hG (hP.sub [] rfl)) rfl rfl hl.1 rfl (lv_room (Nat.le_of_ble_eq_true rfl)) dX3_fill_5 ⟨Nat.zero_le _, Nat.zero_le _⟩) ?_
  refine gc_Sv (va_runS (As := [.int (gb (pBox (nI c) (nI r) (nI w) (nI m)))]) (rest := []) ⟨hx, hb, hml, hown, hts⟩ (c_X3_requireArgument l D cy (gb (pBox (nI c) (nI r) (nI w) (nI m))) (gb_ne0.mpr (ok_box hc hr hw hh))) (va_cwS 1 hts gX3_fill_X3_requireArgument rfl rfl rfl (by decide +kernel) ⟨Nat.le_of_ble_eq_true rfl, Nat.le_of_ble_eq_true rfl⟩) (gpSR hG (hP.sub [] rfl)) rfl rfl hl.1 rfl (lv_room (Nat.le_of_ble_eq_true rfl)) dX3_fill_8 ⟨Nat.zero_le _, Nat.zero_le _⟩) ?_
  refine lv_iload hx hb dX3_fill_11 (lv_at hl 5 rfl) ?_
  refine lv_bipush (v := nI 16) hx hb dX3_fill_13 (by decide) ?_
  refine gc_Si (va_runS (As := [.int (nI v), .int (nI 16)]) (rest := []) ⟨hx, hb, hml, hown, hts⟩ (c_X3_isIndex l D cy (nI v) (nI 16)) (va_cwS 2 hts gX3_fill_X3_isIndex rfl rfl rfl (by decide +kernel) ⟨Nat.le_of_ble_eq_true rfl, Nat.le_of_ble_eq_true rfl⟩) (gpSR hG (hP.sub [] rfl)) rfl rfl hl.1 rfl (lv_room (Nat.le_of_ble_eq_true rfl)) dX3_fill_15 ⟨Nat.zero_le _, Nat.zero_le _⟩) ?_
  refine g_ti (y := gb (pIn (nI v) 0 15)) (congrArg (fun z => gb (pIn (nI v) 0 z)) (by decide)) ?_
  refine gc_Sv (va_runS (As := [.int (gb (pIn (nI v) 0 15))]) (rest := []) ⟨hx, hb, hml, hown, hts⟩ (c_X3_requireArgument l D cy (gb (pIn (nI v) 0 15)) (gb_ne0.mpr (ok_idx (n := 15) (by omega) (by decide)))) (va_cwS 1 hts gX3_fill_X3_requireArgument rfl rfl rfl (by decide +kernel) ⟨Nat.le_of_ble_eq_true rfl, Nat.le_of_ble_eq_true rfl⟩) (gpSR hG (hP.sub [] rfl)) rfl rfl hl.1 rfl (lv_room (Nat.le_of_ble_eq_true rfl)) dX3_fill_18 ⟨Nat.zero_le _, Nat.zero_le _⟩) ?_
  refine lv_aload_n hx hb dX3_fill_21 rfl (lv_at hl 0 rfl) ?_
  refine va_get (D := D) (ci := 3) (v := .ref (a 3)) (C := RX3) (T := TX3) (N := 5) hx hb hts iX3_fill_X3 hown hG.1 hP 0 rfl rfl 1 (by decide) (hts (.fieldLink RX3 16 "DirtyTiles" "screenBefore" "LDirtyTiles$Screen;") (by decide +kernel)) (fun _ h9 => h9) rfl dX3_fill_22 ?_
  refine lv_aload_n hx hb dX3_fill_25 rfl (lv_at hl 0 rfl) ?_
  refine va_get (D := D) (ci := 3) (v := .ref (a 1)) (C := RX3) (T := TX3) (N := 5) hx hb hts iX3_fill_X3 hown hG.1 hP 0 rfl rfl 0 (by decide) (hts (.fieldLink RX3 10 "DirtyTiles" "screen" "LDirtyTiles$Screen;") (by decide +kernel)) (fun _ h9 => h9) rfl dX3_fill_26 ?_
  refine gc_Wv (wn := fun u => [(a 0, eTop (a 1) (a 3) (a 5) (a 6) uw), (a 1, eScr (a 2)), (a 2, eJ cy 12 fs), (a 3, eScr (a 4)), (a 4, eJ cy 12 u), (a 5, eQ cy 2 g), (q 0, eCli (gb (J)) (q 1) (q 3) (q 5) (q 7) (nI L.length) (q 8) (q 9) k), (q 7, eI cy 12 f), (r9 0, eCli (gb (J9)) (r9 1) (r9 3) (r9 5) (r9 7) (nI K.length) (r9 8) (r9 9) k9), (r9 7, eI cy 12 h)]) (wr := [(a 0, eTop (a 1) (a 3) (a 5) (a 6) uw), (a 5, eQ cy 2 g), (q 0, eCli (gb (J)) (q 1) (q 3) (q 5) (q 7) (nI L.length) (q 8) (q 9) k), (q 7, eI cy 12 f), (r9 0, eCli (gb (J9)) (r9 1) (r9 3) (r9 5) (r9 7) (nI K.length) (r9 8) (r9 9) k9), (r9 7, eI cy 12 h)]) (va_runV (As := [.ref (a 1)]) (rest := []) ⟨hx, hb, hml, hown, hts⟩ (c_X2_become l D cy H.size (a 3) (a 4) fb (a 1) (a 2) fs) (cwV 1 hts gX3_fill_X2_become rfl rfl rfl (by decide +kernel) ⟨Nat.le_of_ble_eq_true rfl, Nat.le_of_ble_eq_true rfl⟩) (gpVI (ci := 2) (q0 := 0) hG (hP.sub [3, 4, 1, 2] rfl) (hD.sub [3, 4, 1, 2] (by decide) rfl) rfl rfl) rfl rfl hl.1 rfl (lv_room (Nat.le_of_ble_eq_true rfl)) dX3_fill_29 ⟨Nat.zero_le _, Nat.zero_le _⟩) hP hD hS hA [3, 4, 1, 2] [0, 5, 6, 7, 8, 9] [0, 8, 9, 6, 7, 1, 2, 3, 4, 5] rfl rfl (by decide) (by decide) (fun _ => rfl) (by decide) (fun b1 H locs hw_29 hP hD hS => ?_)
  have hP : va_P D vwCl [(a 0, eTop (a 1) (a 3) (a 5) (a 6) uw), (a 1, eScr (a 2)), (a 2, eJ cy 12 fs), (a 3, eScr (a 4)), (a 4, eJ cy 12 b1), (a 5, eQ cy 2 g), (q 0, eCli (gb (J)) (q 1) (q 3) (q 5) (q 7) (nI L.length) (q 8) (q 9) k), (q 7, eI cy 12 f), (r9 0, eCli (gb (J9)) (r9 1) (r9 3) (r9 5) (r9 7) (nI K.length) (r9 8) (r9 9) k9), (r9 7, eI cy 12 h)] H := hP
  have hD : va_D AA [(a 0, eTop (a 1) (a 3) (a 5) (a 6) uw), (a 1, eScr (a 2)), (a 2, eJ cy 12 fs), (a 3, eScr (a 4)), (a 4, eJ cy 12 b1), (a 5, eQ cy 2 g), (q 0, eCli (gb (J)) (q 1) (q 3) (q 5) (q 7) (nI L.length) (q 8) (q 9) k), (q 7, eI cy 12 f), (r9 0, eCli (gb (J9)) (r9 1) (r9 3) (r9 5) (r9 7) (nI K.length) (r9 8) (r9 9) k9), (r9 7, eI cy 12 h)] := hD
  have hw_29 : ∀ k, k < 12 → b1 k = fs k := hw_29
  refine lv_iload_n hx hb dX3_fill_32 rfl (lv_at hl 2 rfl) ?_
  refine lv_istore (lv' := [(6, .int (nI r)), (0, .ref (a 0)), (1, .int (nI c)), (2, .int (nI r)), (3, .int (nI w)), (4, .int (nI m)), (5, .int (nI v))]) hx hb dX3_fill_33 hl (by decide) rfl (fun ls hl => ?_)
  have loop_35 : ∀ (n9 : Nat) (y : Nat) (g1 : Nat → Int64), r + m - y < n9 → (r ≤ y ∧ y ≤ r + m) → (gD g1 (valF fs c r w v y c)) → ∀ (H : Heap) (locs : List Loc) (ls : Array Slot), va_P D vwCl [(a 0, eTop (a 1) (a 3) (a 5) (a 6) uw), (a 1, eScr (a 2)), (a 2, eJ cy 12 g1), (a 3, eScr (a 4)), (a 4, eJ cy 12 b1), (a 5, eQ cy 2 g), (q 0, eCli (gb (J)) (q 1) (q 3) (q 5) (q 7) (nI L.length) (q 8) (q 9) k), (q 7, eI cy 12 f), (r9 0, eCli (gb (J9)) (r9 1) (r9 3) (r9 5) (r9 7) (nI K.length) (r9 8) (r9 9) k9), (r9 7, eI cy 12 h)] H → va_D AA [(a 0, eTop (a 1) (a 3) (a 5) (a 6) uw), (a 1, eScr (a 2)), (a 2, eJ cy 12 g1), (a 3, eScr (a 4)), (a 4, eJ cy 12 b1), (a 5, eQ cy 2 g), (q 0, eCli (gb (J)) (q 1) (q 3) (q 5) (q 7) (nI L.length) (q 8) (q 9) k), (q 7, eI cy 12 f), (r9 0, eCli (gb (J9)) (r9 1) (r9 3) (r9 5) (r9 7) (nI K.length) (r9 8) (r9 9) k9), (r9 7, eI cy 12 h)] → va_S AA ss.heap H locs → lv_has ls 8 [(0, .ref (a 0)), (1, .int (nI c)), (2, .int (nI r)), (3, .int (nI w)), (4, .int (nI m)), (5, .int (nI v)), (6, .int (nI y))] → W pp l ee ({ frames := 3, cells := 0, slots := 0, locals := 70 } : Room) ss mm ([.ref (a 0), .int (nI c), .int (nI r), .int (nI w), .int (nI m), .int (nI v)] : List Value).toArray bw mt cd H locs 0 0 QQ (F0 mm 35 ls []) := by
    intro n9
    induction n9 with
    | zero => intro y g1 h9; exact absurd h9 (Nat.not_lt_zero _)
    | succ n9 ih_35 =>
      intro y g1 hm_35 hy hd1 H locs ls hP hD hS hl
      refine lv_iload hx hb dX3_fill_35 (lv_at hl 6 rfl) ?_
      refine lv_iload_n hx hb dX3_fill_37 rfl (lv_at hl 2 rfl) ?_
      refine lv_iload hx hb dX3_fill_38 (lv_at hl 4 rfl) ?_
      refine lv_iadd hx hb dX3_fill_40 ?_
      refine g_ti (y := nI (r + m)) (nI_add _ _) ?_
      refine lv_icmp_ge (tgt := 80) hx hb dX3_fill_41 (by decide) (fun c_41 => ?_) (fun c_41 => ?_)
      · skip
        have c_41 : (r + m) ≤ y := (nI_leI (a := (r + m)) (b := y) (by omega) (by omega)).mp c_41
        refine lv_aload_n hx hb dX3_fill_80 rfl (lv_at hl 0 rfl) ?_
        refine gc_Wi (wn := fun u => [(a 0, eTop (a 1) (a 3) (a 5) (a 6) uw), (a 1, eScr (a 2)), (a 2, eJ cy 12 g1), (a 3, eScr (a 4)), (a 4, eJ cy 12 b1), (a 5, eQ cy 2 g), (q 0, eCli (gb (J)) (q 1) (q 3) (q 5) (q 7) (nI u.1.length) (q 8) (q 9) k), (q 7, eI cy 12 u.2.2.1), (r9 0, eCli (gb (J9)) (r9 1) (r9 3) (r9 5) (r9 7) (nI u.2.1.length) (r9 8) (r9 9) k9), (r9 7, eI cy 12 u.2.2.2)]) (wr := []) (va_runV (As := []) (rest := []) ⟨hx, hb, hml, hown, hts⟩ (c_X3_noteChanges l D cy H.size g1 b1 a q r9 uw g J J9 k k9 L K f h hg0 hg1 hL ho hK hk9) (cwV 0 hts gX3_fill_X3_noteChanges rfl rfl rfl (by decide +kernel) ⟨Nat.le_of_ble_eq_true rfl, Nat.le_of_ble_eq_true rfl⟩) (gpVI (ci := 3) (q0 := 0) hG (hP.sub [0, 1, 2, 3, 4, 5, 6, 7, 8, 9] rfl) (hD.sub [0, 1, 2, 3, 4, 5, 6, 7, 8, 9] (by decide) rfl) rfl rfl) rfl rfl hl.1 rfl (lv_room (Nat.le_of_ble_eq_true rfl)) dX3_fill_81 ⟨Nat.zero_le _, Nat.zero_le _⟩) hP hD hS hA [0, 1, 2, 3, 4, 5, 6, 7, 8, 9] [] [0, 1, 2, 3, 4, 5, 6, 7, 8, 9] rfl rfl (by decide) (by decide) (fun _ => rfl) (by decide) (fun r_81 u9 H locs hw_81 hP hD hS => ?_)
        obtain ⟨L2_81, K2_81, f3, h3⟩ := u9
        have hP : va_P D vwCl [(a 0, eTop (a 1) (a 3) (a 5) (a 6) uw), (a 1, eScr (a 2)), (a 2, eJ cy 12 g1), (a 3, eScr (a 4)), (a 4, eJ cy 12 b1), (a 5, eQ cy 2 g), (q 0, eCli (gb (J)) (q 1) (q 3) (q 5) (q 7) (nI L2_81.length) (q 8) (q 9) k), (q 7, eI cy 12 f3), (r9 0, eCli (gb (J9)) (r9 1) (r9 3) (r9 5) (r9 7) (nI K2_81.length) (r9 8) (r9 9) k9), (r9 7, eI cy 12 h3)] H := hP
        have hD : va_D AA [(a 0, eTop (a 1) (a 3) (a 5) (a 6) uw), (a 1, eScr (a 2)), (a 2, eJ cy 12 g1), (a 3, eScr (a 4)), (a 4, eJ cy 12 b1), (a 5, eQ cy 2 g), (q 0, eCli (gb (J)) (q 1) (q 3) (q 5) (q 7) (nI L2_81.length) (q 8) (q 9) k), (q 7, eI cy 12 f3), (r9 0, eCli (gb (J9)) (r9 1) (r9 3) (r9 5) (r9 7) (nI K2_81.length) (r9 8) (r9 9) k9), (r9 7, eI cy 12 h3)] := hD
        obtain ⟨hr_81, hw_81⟩ := hw_81
        refine g_ti (y := nI (sumD b1 g1 12)) hr_81 ?_
        obtain ⟨ef_81, hw_81⟩ := hw_81
        subst ef_81
        obtain ⟨ef_81, hw_81⟩ := hw_81
        subst ef_81
        have hP : va_P D vwCl [(a 0, eTop (a 1) (a 3) (a 5) (a 6) uw), (a 1, eScr (a 2)), (a 2, eJ cy 12 g1), (a 3, eScr (a 4)), (a 4, eJ cy 12 b1), (a 5, eQ cy 2 g), (q 0, eCli (gb (J)) (q 1) (q 3) (q 5) (q 7) (nI (stlF J b1 g1 L 12).length) (q 8) (q 9) k), (q 7, eI cy 12 f3), (r9 0, eCli (gb (J9)) (r9 1) (r9 3) (r9 5) (r9 7) (nI (stlF J9 b1 g1 K 12).length) (r9 8) (r9 9) k9), (r9 7, eI cy 12 h3)] H := hP
        have hD : va_D AA [(a 0, eTop (a 1) (a 3) (a 5) (a 6) uw), (a 1, eScr (a 2)), (a 2, eJ cy 12 g1), (a 3, eScr (a 4)), (a 4, eJ cy 12 b1), (a 5, eQ cy 2 g), (q 0, eCli (gb (J)) (q 1) (q 3) (q 5) (q 7) (nI (stlF J b1 g1 L 12).length) (q 8) (q 9) k), (q 7, eI cy 12 f3), (r9 0, eCli (gb (J9)) (r9 1) (r9 3) (r9 5) (r9 7) (nI (stlF J9 b1 g1 K 12).length) (r9 8) (r9 9) k9), (r9 7, eI cy 12 h3)] := hD
        have hw_81 : hN (stlF J b1 g1 L 12) f3 ∧ hN (stlF J9 b1 g1 K 12) h3 := hw_81
        exact hret _ _ _ _ _ ⟨g1, b1, stlF J b1 g1 L 12, stlF J9 b1 g1 K 12, f3, h3⟩ dX3_fill_84 (⟨rfl, valF_e hd1 (by omega), hw_29, rfl, rfl, hw_81.1, hw_81.2⟩) (hP.sub [0, 1, 2, 3, 4, 5, 6, 7, 8, 9] rfl) (hD.sub [0, 1, 2, 3, 4, 5, 6, 7, 8, 9] (by decide) rfl) hS
      · skip
        have c_41 : ¬ (r + m) ≤ y := fun z => c_41 ((nI_leI (a := (r + m)) (b := y) (by omega) (by omega)).mpr z)
        refine lv_iload_n hx hb dX3_fill_44 rfl (lv_at hl 1 rfl) ?_
        refine lv_istore (lv' := [(7, .int (nI c)), (0, .ref (a 0)), (1, .int (nI c)), (2, .int (nI r)), (3, .int (nI w)), (4, .int (nI m)), (5, .int (nI v)), (6, .int (nI y))]) hx hb dX3_fill_45 hl (by decide) rfl (fun ls hl => ?_)
        have loop_47 : ∀ (n9 : Nat) (x : Nat) (g2 : Nat → Int64), c + w - x < n9 → (c ≤ x ∧ x ≤ c + w) → (gD g2 (valF fs c r w v y x)) → ∀ (H : Heap) (locs : List Loc) (ls : Array Slot), va_P D vwCl [(a 0, eTop (a 1) (a 3) (a 5) (a 6) uw), (a 1, eScr (a 2)), (a 2, eJ cy 12 g2), (a 3, eScr (a 4)), (a 4, eJ cy 12 b1), (a 5, eQ cy 2 g), (q 0, eCli (gb (J)) (q 1) (q 3) (q 5) (q 7) (nI L.length) (q 8) (q 9) k), (q 7, eI cy 12 f), (r9 0, eCli (gb (J9)) (r9 1) (r9 3) (r9 5) (r9 7) (nI K.length) (r9 8) (r9 9) k9), (r9 7, eI cy 12 h)] H → va_D AA [(a 0, eTop (a 1) (a 3) (a 5) (a 6) uw), (a 1, eScr (a 2)), (a 2, eJ cy 12 g2), (a 3, eScr (a 4)), (a 4, eJ cy 12 b1), (a 5, eQ cy 2 g), (q 0, eCli (gb (J)) (q 1) (q 3) (q 5) (q 7) (nI L.length) (q 8) (q 9) k), (q 7, eI cy 12 f), (r9 0, eCli (gb (J9)) (r9 1) (r9 3) (r9 5) (r9 7) (nI K.length) (r9 8) (r9 9) k9), (r9 7, eI cy 12 h)] → va_S AA ss.heap H locs → lv_has ls 8 [(0, .ref (a 0)), (1, .int (nI c)), (2, .int (nI r)), (3, .int (nI w)), (4, .int (nI m)), (5, .int (nI v)), (6, .int (nI y)), (7, .int (nI x))] → W pp l ee ({ frames := 3, cells := 0, slots := 0, locals := 70 } : Room) ss mm ([.ref (a 0), .int (nI c), .int (nI r), .int (nI w), .int (nI m), .int (nI v)] : List Value).toArray bw mt cd H locs 0 0 QQ (F0 mm 47 ls []) := by
          intro n9
          induction n9 with
          | zero => intro x g2 h9; exact absurd h9 (Nat.not_lt_zero _)
          | succ n9 ih_47 =>
            intro x g2 hm_47 hx9 hd2 H locs ls hP hD hS hl
            refine lv_iload hx hb dX3_fill_47 (lv_at hl 7 rfl) ?_
            refine lv_iload_n hx hb dX3_fill_49 rfl (lv_at hl 1 rfl) ?_
            refine lv_iload_n hx hb dX3_fill_50 rfl (lv_at hl 3 rfl) ?_
            refine lv_iadd hx hb dX3_fill_51 ?_
            refine g_ti (y := nI (c + w)) (nI_add _ _) ?_
            refine lv_icmp_ge (tgt := 74) hx hb dX3_fill_52 (by decide) (fun c_52 => ?_) (fun c_52 => ?_)
            · skip
              have c_52 : (c + w) ≤ x := (nI_leI (a := (c + w)) (b := x) (by omega) (by omega)).mp c_52
              refine lv_iinc (v := nI (y + 1)) (lv' := [(6, .int (nI (y + 1))), (0, .ref (a 0)), (1, .int (nI c)), (2, .int (nI r)), (3, .int (nI w)), (4, .int (nI m)), (5, .int (nI v)), (7, .int (nI x))]) hx hb dX3_fill_74 hl (k := 6) rfl (nI_1 _) (by decide) rfl (fun ls hl => ?_)
              refine lv_goto (tgt := 35) hx hb dX3_fill_77 (by decide) ?_
              exact ih_35 (y + 1) g2 (by omega) (by omega) (valF_y hd2 (by omega) hy.1) _ _ _ (hP.sub [0, 1, 2, 3, 4, 5, 6, 7, 8, 9] rfl) (hD.sub [0, 1, 2, 3, 4, 5, 6, 7, 8, 9] (by decide) rfl) hS (lv_sub hl [1, 2, 3, 4, 5, 6, 0] rfl)
            · skip
              have c_52 : ¬ (c + w) ≤ x := fun z => c_52 ((nI_leI (a := (c + w)) (b := x) (by omega) (by omega)).mpr z)
              refine lv_aload_n hx hb dX3_fill_55 rfl (lv_at hl 0 rfl) ?_
              refine va_get (D := D) (ci := 3) (v := .ref (a 1)) (C := RX3) (T := TX3) (N := 5) hx hb hts iX3_fill_X3 hown hG.1 hP 0 rfl rfl 0 (by decide) (hts (.fieldLink RX3 10 "DirtyTiles" "screen" "LDirtyTiles$Screen;") (by decide +kernel)) (fun _ h9 => h9) rfl dX3_fill_56 ?_
              refine lv_iload hx hb dX3_fill_59 (lv_at hl 7 rfl) ?_
              refine lv_iload hx hb dX3_fill_61 (lv_at hl 6 rfl) ?_
              refine lv_iload hx hb dX3_fill_63 (lv_at hl 5 rfl) ?_
              refine gc_Wv (wn := fun u => [(a 0, eTop (a 1) (a 3) (a 5) (a 6) uw), (a 1, eScr (a 2)), (a 2, eJ cy 12 u), (a 3, eScr (a 4)), (a 4, eJ cy 12 b1), (a 5, eQ cy 2 g), (q 0, eCli (gb (J)) (q 1) (q 3) (q 5) (q 7) (nI L.length) (q 8) (q 9) k), (q 7, eI cy 12 f), (r9 0, eCli (gb (J9)) (r9 1) (r9 3) (r9 5) (r9 7) (nI K.length) (r9 8) (r9 9) k9), (r9 7, eI cy 12 h)]) (wr := [(a 0, eTop (a 1) (a 3) (a 5) (a 6) uw), (a 3, eScr (a 4)), (a 4, eJ cy 12 b1), (a 5, eQ cy 2 g), (q 0, eCli (gb (J)) (q 1) (q 3) (q 5) (q 7) (nI L.length) (q 8) (q 9) k), (q 7, eI cy 12 f), (r9 0, eCli (gb (J9)) (r9 1) (r9 3) (r9 5) (r9 7) (nI K.length) (r9 8) (r9 9) k9), (r9 7, eI cy 12 h)]) (va_runV (As := [.int (nI x), .int (nI y), .int (nI v)]) (rest := []) ⟨hx, hb, hml, hown, hts⟩ (c_X2_paint l D cy H.size (a 1) (a 2) g2 x y v (by omega) (by omega) hv) (cwV 3 hts gX3_fill_X2_paint rfl rfl rfl (by decide +kernel) ⟨Nat.le_of_ble_eq_true rfl, Nat.le_of_ble_eq_true rfl⟩) (gpVI (ci := 2) (q0 := 0) hG (hP.sub [1, 2] rfl) (hD.sub [1, 2] (by decide) rfl) rfl rfl) rfl rfl hl.1 rfl (lv_room (Nat.le_of_ble_eq_true rfl)) dX3_fill_65 ⟨Nat.zero_le _, Nat.zero_le _⟩) hP hD hS hA [1, 2] [0, 3, 4, 5, 6, 7, 8, 9] [0, 8, 9, 1, 2, 3, 4, 5, 6, 7] rfl rfl (by decide) (by decide) (fun _ => rfl) (by decide) (fun g3 H locs hw_65 hP hD hS => ?_)
              have hP : va_P D vwCl [(a 0, eTop (a 1) (a 3) (a 5) (a 6) uw), (a 1, eScr (a 2)), (a 2, eJ cy 12 g3), (a 3, eScr (a 4)), (a 4, eJ cy 12 b1), (a 5, eQ cy 2 g), (q 0, eCli (gb (J)) (q 1) (q 3) (q 5) (q 7) (nI L.length) (q 8) (q 9) k), (q 7, eI cy 12 f), (r9 0, eCli (gb (J9)) (r9 1) (r9 3) (r9 5) (r9 7) (nI K.length) (r9 8) (r9 9) k9), (r9 7, eI cy 12 h)] H := hP
              have hD : va_D AA [(a 0, eTop (a 1) (a 3) (a 5) (a 6) uw), (a 1, eScr (a 2)), (a 2, eJ cy 12 g3), (a 3, eScr (a 4)), (a 4, eJ cy 12 b1), (a 5, eQ cy 2 g), (q 0, eCli (gb (J)) (q 1) (q 3) (q 5) (q 7) (nI L.length) (q 8) (q 9) k), (q 7, eI cy 12 f), (r9 0, eCli (gb (J9)) (r9 1) (r9 3) (r9 5) (r9 7) (nI K.length) (r9 8) (r9 9) k9), (r9 7, eI cy 12 h)] := hD
              have hw_65 : g3 = vp_updL g2 (tl x y) (gput (g2 (tl x y)) (plc x y) v) := hw_65
              refine lv_iinc (v := nI (x + 1)) (lv' := [(7, .int (nI (x + 1))), (0, .ref (a 0)), (1, .int (nI c)), (2, .int (nI r)), (3, .int (nI w)), (4, .int (nI m)), (5, .int (nI v)), (6, .int (nI y))]) hx hb dX3_fill_68 hl (k := 7) rfl (nI_1 _) (by decide) rfl (fun ls hl => ?_)
              refine lv_goto (tgt := 47) hx hb dX3_fill_71 (by decide) ?_
              exact ih_47 (x + 1) g3 (by omega) (by omega) (by rw [hw_65]; exact valF_x hd2 (by omega) hx9.1 hv) _ _ _ (hP.sub [0, 1, 2, 3, 4, 5, 6, 7, 8, 9] rfl) (hD.sub [0, 1, 2, 3, 4, 5, 6, 7, 8, 9] (by decide) rfl) hS (lv_sub hl [1, 2, 3, 4, 5, 6, 7, 0] rfl)
        exact loop_47 ((c + w - c) + 1) c g1 (Nat.lt_succ_self _) (by omega) hd1 _ _ _ (hP.sub [0, 1, 2, 3, 4, 5, 6, 7, 8, 9] rfl) (hD.sub [0, 1, 2, 3, 4, 5, 6, 7, 8, 9] (by decide) rfl) hS (lv_sub hl [1, 2, 3, 4, 5, 6, 7, 0] rfl)
  exact loop_35 ((r + m - r) + 1) r fs (Nat.lt_succ_self _) (by omega) (valF_0 fs c r w v) _ _ _ (hP.sub [0, 1, 2, 3, 4, 5, 6, 7, 8, 9] rfl) (hD.sub [0, 1, 2, 3, 4, 5, 6, 7, 8, 9] (by decide) rfl) hS (lv_sub hl [1, 2, 3, 4, 5, 6, 0] rfl)
theorem iX3_copy_X3 : ∀ w ∈ wsX30, w ∈ wsX3_copy := by decide +kernel
set_option maxHeartbeats 4000000 in
set_option maxRecDepth 100000 in
theorem c_X3_copy (l : Launch) (D : va_G) (cy : Nat → ClassId) (sz : Nat) (fs fb : Nat → Int64) (a q r9 : Nat → Nat) (uw : Int32) (g : Nat → Option Nat) (J J9 : Prop) (k k9 : Int32) (L K : List Nat) (f h : Nat → Int32) (c r w m : Nat) (dx dy : Int32) (hg0 : g 0 = some (q 0)) (hg1 : g 1 = some (r9 0)) (hL : hN L f) (ho : okD L) (hK : hN K h) (hk9 : okD K) (hc : c < 16) (hr : r < 12) (hw : 1 ≤ w ∧ w + c ≤ 16) (hh : 1 ≤ m ∧ m + r ≤ 12) (hdx : pIn dx (-15) 15) (hdy : pIn dy (-11) 11) : Met l yX3_copy wsX3_copy ({ frames := 3, cells := 0, slots := 0, locals := 70 } : Room) (va_Pc [.ref (a 0), .int (nI c), .int (nI r), .int (nI w), .int (nI m), .int dx, .int dy] (gI D (gT cy) [(a 0, eTop (a 1) (a 3) (a 5) (a 6) uw), (a 1, eScr (a 2)), (a 2, eJ cy 12 fs), (a 3, eScr (a 4)), (a 4, eJ cy 12 fb), (a 5, eQ cy 2 g), (q 0, eCli (gb (J)) (q 1) (q 3) (q 5) (q 7) (nI L.length) (q 8) (q 9) k), (q 7, eI cy 12 f), (r9 0, eCli (gb (J9)) (r9 1) (r9 3) (r9 5) (r9 7) (nI K.length) (r9 8) (r9 9) k9), (r9 7, eI cy 12 h)] sz)) (va_Qi (fun (r9 : Int32) (u : (Nat → Int64) × (Nat → Int64) × (List Nat) × (List Nat) × (Nat → Int32) × (Nat → Int32)) => r9 = nI (sumD u.2.1 u.1 12) ∧ ((gD u.1 (finC fs c r w m dx.toInt dy.toInt) ∧ (∀ k, k < 12 → u.2.1 k = fs k) ∧ u.2.2.1 = stlF J u.2.1 u.1 L 12 ∧ u.2.2.2.1 = stlF J9 u.2.1 u.1 K 12 ∧ hN u.2.2.1 u.2.2.2.2.1 ∧ hN u.2.2.2.1 u.2.2.2.2.2))) (gO D (fun u : (Nat → Int64) × (Nat → Int64) × (List Nat) × (List Nat) × (Nat → Int32) × (Nat → Int32) => [(a 0, eTop (a 1) (a 3) (a 5) (a 6) uw), (a 1, eScr (a 2)), (a 2, eJ cy 12 u.1), (a 3, eScr (a 4)), (a 4, eJ cy 12 u.2.1), (a 5, eQ cy 2 g), (q 0, eCli (gb (J)) (q 1) (q 3) (q 5) (q 7) (nI u.2.2.1.length) (q 8) (q 9) k), (q 7, eI cy 12 u.2.2.2.2.1), (r9 0, eCli (gb (J9)) (r9 1) (r9 3) (r9 5) (r9 7) (nI u.2.2.2.1.length) (r9 8) (r9 9) k9), (r9 7, eI cy 12 u.2.2.2.2.2)]) (va_A [(a 0, eTop (a 1) (a 3) (a 5) (a 6) uw), (a 1, eScr (a 2)), (a 2, eJ cy 12 fs), (a 3, eScr (a 4)), (a 4, eJ cy 12 fb), (a 5, eQ cy 2 g), (q 0, eCli (gb (J)) (q 1) (q 3) (q 5) (q 7) (nI L.length) (q 8) (q 9) k), (q 7, eI cy 12 f), (r9 0, eCli (gb (J9)) (r9 1) (r9 3) (r9 5) (r9 7) (nI K.length) (r9 8) (r9 9) k9), (r9 7, eI cy 12 h)] sz)) (va_A [(a 0, eTop (a 1) (a 3) (a 5) (a 6) uw), (a 1, eScr (a 2)), (a 2, eJ cy 12 fs), (a 3, eScr (a 4)), (a 4, eJ cy 12 fb), (a 5, eQ cy 2 g), (q 0, eCli (gb (J)) (q 1) (q 3) (q 5) (q 7) (nI L.length) (q 8) (q 9) k), (q 7, eI cy 12 f), (r9 0, eCli (gb (J9)) (r9 1) (r9 3) (r9 5) (r9 7) (nI K.length) (r9 8) (r9 9) k9), (r9 7, eI cy 12 h)] sz)) 0 0 (va_A [(a 0, eTop (a 1) (a 3) (a 5) (a 6) uw), (a 1, eScr (a 2)), (a 2, eJ cy 12 fs), (a 3, eScr (a 4)), (a 4, eJ cy 12 fb), (a 5, eQ cy 2 g), (q 0, eCli (gb (J)) (q 1) (q 3) (q 5) (q 7) (nI L.length) (q 8) (q 9) k), (q 7, eI cy 12 f), (r9 0, eCli (gb (J9)) (r9 1) (r9 3) (r9 5) (r9 7) (nI K.length) (r9 8) (r9 9) k9), (r9 7, eI cy 12 h)] sz) := by
  refine gW_i (cc := cX3_copy) (maxL := 9) (ty := .int) (by decide) rfl (Nat.le_of_ble_eq_true rfl) (fun v u hv => by rfl) ?_
  intro pp ee ss mm bw mt cd QQ AA ls hfx hP hG hD hA hret hl
  have hS : va_S AA ss.heap ss.heap [] := va_S.rf
  obtain ⟨H, eH⟩ : ∃ H, H = ss.heap := ⟨_, rfl⟩
  obtain ⟨locs, eL⟩ : ∃ L : List Loc, L = [] := ⟨_, rfl⟩
  have hP : va_P D vwCl [(a 0, eTop (a 1) (a 3) (a 5) (a 6) uw), (a 1, eScr (a 2)), (a 2, eJ cy 12 fs), (a 3, eScr (a 4)), (a 4, eJ cy 12 fb), (a 5, eQ cy 2 g), (q 0, eCli (gb (J)) (q 1) (q 3) (q 5) (q 7) (nI L.length) (q 8) (q 9) k), (q 7, eI cy 12 f), (r9 0, eCli (gb (J9)) (r9 1) (r9 3) (r9 5) (r9 7) (nI K.length) (r9 8) (r9 9) k9), (r9 7, eI cy 12 h)] H := by rw [eH]; exact hP
  have hS : va_S AA ss.heap H locs := by rw [eH, eL]; exact hS
  have goal : ∀ X Y, X = H → Y = locs → W pp l ee ({ frames := 3, cells := 0, slots := 0, locals := 70 } : Room) ss mm ([.ref (a 0), .int (nI c), .int (nI r), .int (nI w), .int (nI m), .int dx, .int dy] : List Value).toArray bw mt cd X Y 0 0 QQ (F0 mm 0 ls []) → W pp l ee ({ frames := 3, cells := 0, slots := 0, locals := 70 } : Room) ss mm ([.ref (a 0), .int (nI c), .int (nI r), .int (nI w), .int (nI m), .int dx, .int dy] : List Value).toArray bw mt cd ss.heap [] 0 0 QQ (F0 mm 0 ls []) := fun X Y hX hY h => by rw [hX, hY, eH, eL] at h; exact h
  refine goal H locs rfl rfl ?_
  clear goal eH eL
  obtain ⟨hx, hb, hml, hown, hts, hlocks⟩ := hfx
  have hown : ss.vm.findClass RX3 = some mm.cls := hown
  have hl : lv_has ls 9 [(0, .ref (a 0)), (1, .int (nI c)), (2, .int (nI r)), (3, .int (nI w)), (4, .int (nI m)), (5, .int dx), (6, .int dy)] := hl
  have hdx9 : pIn dx (-4096) 4096 := ⟨by have := hdx.1; omega, by have := hdx.2; omega⟩
  have hdy9 : pIn dy (-4096) 4096 := ⟨by have := hdy.1; omega, by have := hdy.2; omega⟩
  refine lv_iload_n hx hb dX3_copy_0 rfl (lv_at hl 1 rfl) ?_
  refine lv_iload_n hx hb dX3_copy_1 rfl (lv_at hl 2 rfl) ?_
  refine lv_iload_n hx hb dX3_copy_2 rfl (lv_at hl 3 rfl) ?_
  refine lv_iload hx hb dX3_copy_3 (lv_at hl 4 rfl) ?_
  refine gc_Si (va_runS (As := [.int (nI c), .int (nI r), .int (nI w), .int (nI m)]) (rest := []) ⟨hx, hb, hml, hown, hts⟩ (c_X3_isBox l D cy (nI c) (nI r) (nI w) (nI m)) (va_cwS 4 hts gX3_copy_X3_isBox rfl rfl rfl (by decide +kernel) ⟨Nat.le_of_ble_eq_true rfl, Nat.le_of_ble_eq_true rfl⟩) (gpSR hG (hP.sub [] rfl)) rfl rfl hl.1 rfl (lv_room (Nat.le_of_ble_eq_true rfl)) dX3_copy_5 ⟨Nat.zero_le _, Nat.zero_le _⟩) ?_
  refine gc_Sv (va_runS (As := [.int (gb (pBox (nI c) (nI r) (nI w) (nI m)))]) (rest := []) ⟨hx, hb, hml, hown, hts⟩ (c_X3_requireArgument l D cy (gb (pBox (nI c) (nI r) (nI w) (nI m))) (gb_ne0.mpr (ok_box hc hr hw hh))) (va_cwS 1 hts gX3_copy_X3_requireArgument rfl rfl rfl (by decide +kernel) ⟨Nat.le_of_ble_eq_true rfl, Nat.le_of_ble_eq_true rfl⟩) (gpSR hG (hP.sub [] rfl)) rfl rfl hl.1 rfl (lv_room (Nat.le_of_ble_eq_true rfl)) dX3_copy_8 ⟨Nat.zero_le _, Nat.zero_le _⟩) ?_
  refine lv_iload hx hb dX3_copy_11 (lv_at hl 5 rfl) ?_
  refine lv_bipush (v := (-15)) hx hb dX3_copy_13 (by decide) ?_
  refine lv_bipush (v := nI 15) hx hb dX3_copy_15 (by decide) ?_
  refine gc_Si (va_runS (As := [.int dx, .int ((-15)), .int (nI 15)]) (rest := []) ⟨hx, hb, hml, hown, hts⟩ (c_X3_isBetween l D cy dx ((-15)) (nI 15)) (va_cwS 3 hts gX3_copy_X3_isBetween rfl rfl rfl (by decide +kernel) ⟨Nat.le_of_ble_eq_true rfl, Nat.le_of_ble_eq_true rfl⟩) (gpSR hG (hP.sub [] rfl)) rfl rfl hl.1 rfl (lv_room (Nat.le_of_ble_eq_true rfl)) dX3_copy_17 ⟨Nat.zero_le _, Nat.zero_le _⟩) ?_
  refine g_ti (y := gb (pIn dx (-15) 15)) ((congrArg (fun z => gb (pIn dx z (nI 15 : Int32).toInt)) (by decide : ((-15) : Int32).toInt = (-15))).trans (congrArg (fun z => gb (pIn dx (-15) z)) (by decide : (nI 15 : Int32).toInt = 15))) ?_
  refine gc_Sv (va_runS (As := [.int (gb (pIn dx (-15) 15))]) (rest := []) ⟨hx, hb, hml, hown, hts⟩ (c_X3_requireArgument l D cy (gb (pIn dx (-15) 15)) (gb_ne0.mpr (hdx))) (va_cwS 1 hts gX3_copy_X3_requireArgument rfl rfl rfl (by decide +kernel) ⟨Nat.le_of_ble_eq_true rfl, Nat.le_of_ble_eq_true rfl⟩) (gpSR hG (hP.sub [] rfl)) rfl rfl hl.1 rfl (lv_room (Nat.le_of_ble_eq_true rfl)) dX3_copy_20 ⟨Nat.zero_le _, Nat.zero_le _⟩) ?_
  refine lv_iload hx hb dX3_copy_23 (lv_at hl 6 rfl) ?_
  refine lv_bipush (v := (-11)) hx hb dX3_copy_25 (by decide) ?_
  refine lv_bipush (v := nI 11) hx hb dX3_copy_27 (by decide) ?_
  refine gc_Si (va_runS (As := [.int dy, .int ((-11)), .int (nI 11)]) (rest := []) ⟨hx, hb, hml, hown, hts⟩ (c_X3_isBetween l D cy dy ((-11)) (nI 11)) (va_cwS 3 hts gX3_copy_X3_isBetween rfl rfl rfl (by decide +kernel) ⟨Nat.le_of_ble_eq_true rfl, Nat.le_of_ble_eq_true rfl⟩) (gpSR hG (hP.sub [] rfl)) rfl rfl hl.1 rfl (lv_room (Nat.le_of_ble_eq_true rfl)) dX3_copy_29 ⟨Nat.zero_le _, Nat.zero_le _⟩) ?_
  refine g_ti (y := gb (pIn dy (-11) 11)) ((congrArg (fun z => gb (pIn dy z (nI 11 : Int32).toInt)) (by decide : ((-11) : Int32).toInt = (-11))).trans (congrArg (fun z => gb (pIn dy (-11) z)) (by decide : (nI 11 : Int32).toInt = 11))) ?_
  refine gc_Sv (va_runS (As := [.int (gb (pIn dy (-11) 11))]) (rest := []) ⟨hx, hb, hml, hown, hts⟩ (c_X3_requireArgument l D cy (gb (pIn dy (-11) 11)) (gb_ne0.mpr (hdy))) (va_cwS 1 hts gX3_copy_X3_requireArgument rfl rfl rfl (by decide +kernel) ⟨Nat.le_of_ble_eq_true rfl, Nat.le_of_ble_eq_true rfl⟩) (gpSR hG (hP.sub [] rfl)) rfl rfl hl.1 rfl (lv_room (Nat.le_of_ble_eq_true rfl)) dX3_copy_32 ⟨Nat.zero_le _, Nat.zero_le _⟩) ?_
  refine lv_aload_n hx hb dX3_copy_35 rfl (lv_at hl 0 rfl) ?_
  refine va_get (D := D) (ci := 3) (v := .ref (a 3)) (C := RX3) (T := TX3) (N := 5) hx hb hts iX3_copy_X3 hown hG.1 hP 0 rfl rfl 1 (by decide) (hts (.fieldLink RX3 16 "DirtyTiles" "screenBefore" "LDirtyTiles$Screen;") (by decide +kernel)) (fun _ h9 => h9) rfl dX3_copy_36 ?_
  refine lv_aload_n hx hb dX3_copy_39 rfl (lv_at hl 0 rfl) ?_
  refine va_get (D := D) (ci := 3) (v := .ref (a 1)) (C := RX3) (T := TX3) (N := 5) hx hb hts iX3_copy_X3 hown hG.1 hP 0 rfl rfl 0 (by decide) (hts (.fieldLink RX3 10 "DirtyTiles" "screen" "LDirtyTiles$Screen;") (by decide +kernel)) (fun _ h9 => h9) rfl dX3_copy_40 ?_
  refine gc_Wv (wn := fun u => [(a 0, eTop (a 1) (a 3) (a 5) (a 6) uw), (a 1, eScr (a 2)), (a 2, eJ cy 12 fs), (a 3, eScr (a 4)), (a 4, eJ cy 12 u), (a 5, eQ cy 2 g), (q 0, eCli (gb (J)) (q 1) (q 3) (q 5) (q 7) (nI L.length) (q 8) (q 9) k), (q 7, eI cy 12 f), (r9 0, eCli (gb (J9)) (r9 1) (r9 3) (r9 5) (r9 7) (nI K.length) (r9 8) (r9 9) k9), (r9 7, eI cy 12 h)]) (wr := [(a 0, eTop (a 1) (a 3) (a 5) (a 6) uw), (a 5, eQ cy 2 g), (q 0, eCli (gb (J)) (q 1) (q 3) (q 5) (q 7) (nI L.length) (q 8) (q 9) k), (q 7, eI cy 12 f), (r9 0, eCli (gb (J9)) (r9 1) (r9 3) (r9 5) (r9 7) (nI K.length) (r9 8) (r9 9) k9), (r9 7, eI cy 12 h)]) (va_runV (As := [.ref (a 1)]) (rest := []) ⟨hx, hb, hml, hown, hts⟩ (c_X2_become l D cy H.size (a 3) (a 4) fb (a 1) (a 2) fs) (cwV 1 hts gX3_copy_X2_become rfl rfl rfl (by decide +kernel) ⟨Nat.le_of_ble_eq_true rfl, Nat.le_of_ble_eq_true rfl⟩) (gpVI (ci := 2) (q0 := 0) hG (hP.sub [3, 4, 1, 2] rfl) (hD.sub [3, 4, 1, 2] (by decide) rfl) rfl rfl) rfl rfl hl.1 rfl (lv_room (Nat.le_of_ble_eq_true rfl)) dX3_copy_43 ⟨Nat.zero_le _, Nat.zero_le _⟩) hP hD hS hA [3, 4, 1, 2] [0, 5, 6, 7, 8, 9] [0, 8, 9, 6, 7, 1, 2, 3, 4, 5] rfl rfl (by decide) (by decide) (fun _ => rfl) (by decide) (fun b1 H locs hw_43 hP hD hS => ?_)
  have hP : va_P D vwCl [(a 0, eTop (a 1) (a 3) (a 5) (a 6) uw), (a 1, eScr (a 2)), (a 2, eJ cy 12 fs), (a 3, eScr (a 4)), (a 4, eJ cy 12 b1), (a 5, eQ cy 2 g), (q 0, eCli (gb (J)) (q 1) (q 3) (q 5) (q 7) (nI L.length) (q 8) (q 9) k), (q 7, eI cy 12 f), (r9 0, eCli (gb (J9)) (r9 1) (r9 3) (r9 5) (r9 7) (nI K.length) (r9 8) (r9 9) k9), (r9 7, eI cy 12 h)] H := hP
  have hD : va_D AA [(a 0, eTop (a 1) (a 3) (a 5) (a 6) uw), (a 1, eScr (a 2)), (a 2, eJ cy 12 fs), (a 3, eScr (a 4)), (a 4, eJ cy 12 b1), (a 5, eQ cy 2 g), (q 0, eCli (gb (J)) (q 1) (q 3) (q 5) (q 7) (nI L.length) (q 8) (q 9) k), (q 7, eI cy 12 f), (r9 0, eCli (gb (J9)) (r9 1) (r9 3) (r9 5) (r9 7) (nI K.length) (r9 8) (r9 9) k9), (r9 7, eI cy 12 h)] := hD
  have hw_43 : ∀ k, k < 12 → b1 k = fs k := hw_43
  refine lv_iload_n hx hb dX3_copy_46 rfl (lv_at hl 2 rfl) ?_
  refine lv_istore (lv' := [(7, .int (nI r)), (0, .ref (a 0)), (1, .int (nI c)), (2, .int (nI r)), (3, .int (nI w)), (4, .int (nI m)), (5, .int dx), (6, .int dy)]) hx hb dX3_copy_47 hl (by decide) rfl (fun ls hl => ?_)
  have loop_49 : ∀ (n9 : Nat) (y : Nat) (g1 : Nat → Int64), r + m - y < n9 → (r ≤ y ∧ y ≤ r + m) → (gD g1 (valC fs c r w y c dx.toInt dy.toInt)) → ∀ (H : Heap) (locs : List Loc) (ls : Array Slot), va_P D vwCl [(a 0, eTop (a 1) (a 3) (a 5) (a 6) uw), (a 1, eScr (a 2)), (a 2, eJ cy 12 g1), (a 3, eScr (a 4)), (a 4, eJ cy 12 b1), (a 5, eQ cy 2 g), (q 0, eCli (gb (J)) (q 1) (q 3) (q 5) (q 7) (nI L.length) (q 8) (q 9) k), (q 7, eI cy 12 f), (r9 0, eCli (gb (J9)) (r9 1) (r9 3) (r9 5) (r9 7) (nI K.length) (r9 8) (r9 9) k9), (r9 7, eI cy 12 h)] H → va_D AA [(a 0, eTop (a 1) (a 3) (a 5) (a 6) uw), (a 1, eScr (a 2)), (a 2, eJ cy 12 g1), (a 3, eScr (a 4)), (a 4, eJ cy 12 b1), (a 5, eQ cy 2 g), (q 0, eCli (gb (J)) (q 1) (q 3) (q 5) (q 7) (nI L.length) (q 8) (q 9) k), (q 7, eI cy 12 f), (r9 0, eCli (gb (J9)) (r9 1) (r9 3) (r9 5) (r9 7) (nI K.length) (r9 8) (r9 9) k9), (r9 7, eI cy 12 h)] → va_S AA ss.heap H locs → lv_has ls 9 [(0, .ref (a 0)), (1, .int (nI c)), (2, .int (nI r)), (3, .int (nI w)), (4, .int (nI m)), (5, .int dx), (6, .int dy), (7, .int (nI y))] → W pp l ee ({ frames := 3, cells := 0, slots := 0, locals := 70 } : Room) ss mm ([.ref (a 0), .int (nI c), .int (nI r), .int (nI w), .int (nI m), .int dx, .int dy] : List Value).toArray bw mt cd H locs 0 0 QQ (F0 mm 49 ls []) := by
    intro n9
    induction n9 with
    | zero => intro y g1 h9; exact absurd h9 (Nat.not_lt_zero _)
    | succ n9 ih_49 =>
      intro y g1 hm_49 hy hd1 H locs ls hP hD hS hl
      refine lv_iload hx hb dX3_copy_49 (lv_at hl 7 rfl) ?_
      refine lv_iload_n hx hb dX3_copy_51 rfl (lv_at hl 2 rfl) ?_
      refine lv_iload hx hb dX3_copy_52 (lv_at hl 4 rfl) ?_
      refine lv_iadd hx hb dX3_copy_54 ?_
      refine g_ti (y := nI (r + m)) (nI_add _ _) ?_
      refine lv_icmp_ge (tgt := 125) hx hb dX3_copy_55 (by decide) (fun c_55 => ?_) (fun c_55 => ?_)
      · skip
        have c_55 : (r + m) ≤ y := (nI_leI (a := (r + m)) (b := y) (by omega) (by omega)).mp c_55
        refine lv_aload_n hx hb dX3_copy_125 rfl (lv_at hl 0 rfl) ?_
        refine gc_Wi (wn := fun u => [(a 0, eTop (a 1) (a 3) (a 5) (a 6) uw), (a 1, eScr (a 2)), (a 2, eJ cy 12 g1), (a 3, eScr (a 4)), (a 4, eJ cy 12 b1), (a 5, eQ cy 2 g), (q 0, eCli (gb (J)) (q 1) (q 3) (q 5) (q 7) (nI u.1.length) (q 8) (q 9) k), (q 7, eI cy 12 u.2.2.1), (r9 0, eCli (gb (J9)) (r9 1) (r9 3) (r9 5) (r9 7) (nI u.2.1.length) (r9 8) (r9 9) k9), (r9 7, eI cy 12 u.2.2.2)]) (wr := []) (va_runV (As := []) (rest := []) ⟨hx, hb, hml, hown, hts⟩ (c_X3_noteChanges l D cy H.size g1 b1 a q r9 uw g J J9 k k9 L K f h hg0 hg1 hL ho hK hk9) (cwV 0 hts gX3_copy_X3_noteChanges rfl rfl rfl (by decide +kernel) ⟨Nat.le_of_ble_eq_true rfl, Nat.le_of_ble_eq_true rfl⟩) (gpVI (ci := 3) (q0 := 0) hG (hP.sub [0, 1, 2, 3, 4, 5, 6, 7, 8, 9] rfl) (hD.sub [0, 1, 2, 3, 4, 5, 6, 7, 8, 9] (by decide) rfl) rfl rfl) rfl rfl hl.1 rfl (lv_room (Nat.le_of_ble_eq_true rfl)) dX3_copy_126 ⟨Nat.zero_le _, Nat.zero_le _⟩) hP hD hS hA [0, 1, 2, 3, 4, 5, 6, 7, 8, 9] [] [0, 1, 2, 3, 4, 5, 6, 7, 8, 9] rfl rfl (by decide) (by decide) (fun _ => rfl) (by decide) (fun r_126 u9 H locs hw_126 hP hD hS => ?_)
        obtain ⟨L2_126, K2_126, f3, h3⟩ := u9
        have hP : va_P D vwCl [(a 0, eTop (a 1) (a 3) (a 5) (a 6) uw), (a 1, eScr (a 2)), (a 2, eJ cy 12 g1), (a 3, eScr (a 4)), (a 4, eJ cy 12 b1), (a 5, eQ cy 2 g), (q 0, eCli (gb (J)) (q 1) (q 3) (q 5) (q 7) (nI L2_126.length) (q 8) (q 9) k), (q 7, eI cy 12 f3), (r9 0, eCli (gb (J9)) (r9 1) (r9 3) (r9 5) (r9 7) (nI K2_126.length) (r9 8) (r9 9) k9), (r9 7, eI cy 12 h3)] H := hP
        have hD : va_D AA [(a 0, eTop (a 1) (a 3) (a 5) (a 6) uw), (a 1, eScr (a 2)), (a 2, eJ cy 12 g1), (a 3, eScr (a 4)), (a 4, eJ cy 12 b1), (a 5, eQ cy 2 g), (q 0, eCli (gb (J)) (q 1) (q 3) (q 5) (q 7) (nI L2_126.length) (q 8) (q 9) k), (q 7, eI cy 12 f3), (r9 0, eCli (gb (J9)) (r9 1) (r9 3) (r9 5) (r9 7) (nI K2_126.length) (r9 8) (r9 9) k9), (r9 7, eI cy 12 h3)] := hD
        obtain ⟨hr_126, hw_126⟩ := hw_126
        refine g_ti (y := nI (sumD b1 g1 12)) hr_126 ?_
        obtain ⟨ef_126, hw_126⟩ := hw_126
        subst ef_126
        obtain ⟨ef_126, hw_126⟩ := hw_126
        subst ef_126
        have hP : va_P D vwCl [(a 0, eTop (a 1) (a 3) (a 5) (a 6) uw), (a 1, eScr (a 2)), (a 2, eJ cy 12 g1), (a 3, eScr (a 4)), (a 4, eJ cy 12 b1), (a 5, eQ cy 2 g), (q 0, eCli (gb (J)) (q 1) (q 3) (q 5) (q 7) (nI (stlF J b1 g1 L 12).length) (q 8) (q 9) k), (q 7, eI cy 12 f3), (r9 0, eCli (gb (J9)) (r9 1) (r9 3) (r9 5) (r9 7) (nI (stlF J9 b1 g1 K 12).length) (r9 8) (r9 9) k9), (r9 7, eI cy 12 h3)] H := hP
        have hD : va_D AA [(a 0, eTop (a 1) (a 3) (a 5) (a 6) uw), (a 1, eScr (a 2)), (a 2, eJ cy 12 g1), (a 3, eScr (a 4)), (a 4, eJ cy 12 b1), (a 5, eQ cy 2 g), (q 0, eCli (gb (J)) (q 1) (q 3) (q 5) (q 7) (nI (stlF J b1 g1 L 12).length) (q 8) (q 9) k), (q 7, eI cy 12 f3), (r9 0, eCli (gb (J9)) (r9 1) (r9 3) (r9 5) (r9 7) (nI (stlF J9 b1 g1 K 12).length) (r9 8) (r9 9) k9), (r9 7, eI cy 12 h3)] := hD
        have hw_126 : hN (stlF J b1 g1 L 12) f3 ∧ hN (stlF J9 b1 g1 K 12) h3 := hw_126
        exact hret _ _ _ _ _ ⟨g1, b1, stlF J b1 g1 L 12, stlF J9 b1 g1 K 12, f3, h3⟩ dX3_copy_129 (⟨rfl, valC_e hd1 (by omega), hw_43, rfl, rfl, hw_126.1, hw_126.2⟩) (hP.sub [0, 1, 2, 3, 4, 5, 6, 7, 8, 9] rfl) (hD.sub [0, 1, 2, 3, 4, 5, 6, 7, 8, 9] (by decide) rfl) hS
      · skip
        have c_55 : ¬ (r + m) ≤ y := fun z => c_55 ((nI_leI (a := (r + m)) (b := y) (by omega) (by omega)).mpr z)
        refine lv_iload_n hx hb dX3_copy_58 rfl (lv_at hl 1 rfl) ?_
        refine lv_istore (lv' := [(8, .int (nI c)), (0, .ref (a 0)), (1, .int (nI c)), (2, .int (nI r)), (3, .int (nI w)), (4, .int (nI m)), (5, .int dx), (6, .int dy), (7, .int (nI y))]) hx hb dX3_copy_59 hl (by decide) rfl (fun ls hl => ?_)
        have loop_61 : ∀ (n9 : Nat) (x : Nat) (g2 : Nat → Int64), c + w - x < n9 → (c ≤ x ∧ x ≤ c + w) → (gD g2 (valC fs c r w y x dx.toInt dy.toInt)) → ∀ (H : Heap) (locs : List Loc) (ls : Array Slot), va_P D vwCl [(a 0, eTop (a 1) (a 3) (a 5) (a 6) uw), (a 1, eScr (a 2)), (a 2, eJ cy 12 g2), (a 3, eScr (a 4)), (a 4, eJ cy 12 b1), (a 5, eQ cy 2 g), (q 0, eCli (gb (J)) (q 1) (q 3) (q 5) (q 7) (nI L.length) (q 8) (q 9) k), (q 7, eI cy 12 f), (r9 0, eCli (gb (J9)) (r9 1) (r9 3) (r9 5) (r9 7) (nI K.length) (r9 8) (r9 9) k9), (r9 7, eI cy 12 h)] H → va_D AA [(a 0, eTop (a 1) (a 3) (a 5) (a 6) uw), (a 1, eScr (a 2)), (a 2, eJ cy 12 g2), (a 3, eScr (a 4)), (a 4, eJ cy 12 b1), (a 5, eQ cy 2 g), (q 0, eCli (gb (J)) (q 1) (q 3) (q 5) (q 7) (nI L.length) (q 8) (q 9) k), (q 7, eI cy 12 f), (r9 0, eCli (gb (J9)) (r9 1) (r9 3) (r9 5) (r9 7) (nI K.length) (r9 8) (r9 9) k9), (r9 7, eI cy 12 h)] → va_S AA ss.heap H locs → lv_has ls 9 [(0, .ref (a 0)), (1, .int (nI c)), (2, .int (nI r)), (3, .int (nI w)), (4, .int (nI m)), (5, .int dx), (6, .int dy), (7, .int (nI y)), (8, .int (nI x))] → W pp l ee ({ frames := 3, cells := 0, slots := 0, locals := 70 } : Room) ss mm ([.ref (a 0), .int (nI c), .int (nI r), .int (nI w), .int (nI m), .int dx, .int dy] : List Value).toArray bw mt cd H locs 0 0 QQ (F0 mm 61 ls []) := by
          intro n9
          induction n9 with
          | zero => intro x g2 h9; exact absurd h9 (Nat.not_lt_zero _)
          | succ n9 ih_61 =>
            intro x g2 hm_61 hx9 hd2 H locs ls hP hD hS hl
            refine lv_iload hx hb dX3_copy_61 (lv_at hl 8 rfl) ?_
            refine lv_iload_n hx hb dX3_copy_63 rfl (lv_at hl 1 rfl) ?_
            refine lv_iload_n hx hb dX3_copy_64 rfl (lv_at hl 3 rfl) ?_
            refine lv_iadd hx hb dX3_copy_65 ?_
            refine g_ti (y := nI (c + w)) (nI_add _ _) ?_
            refine lv_icmp_ge (tgt := 119) hx hb dX3_copy_66 (by decide) (fun c_66 => ?_) (fun c_66 => ?_)
            · skip
              have c_66 : (c + w) ≤ x := (nI_leI (a := (c + w)) (b := x) (by omega) (by omega)).mp c_66
              refine lv_iinc (v := nI (y + 1)) (lv' := [(7, .int (nI (y + 1))), (0, .ref (a 0)), (1, .int (nI c)), (2, .int (nI r)), (3, .int (nI w)), (4, .int (nI m)), (5, .int dx), (6, .int dy), (8, .int (nI x))]) hx hb dX3_copy_119 hl (k := 7) rfl (nI_1 _) (by decide) rfl (fun ls hl => ?_)
              refine lv_goto (tgt := 49) hx hb dX3_copy_122 (by decide) ?_
              exact ih_49 (y + 1) g2 (by omega) (by omega) (valC_y hd2 (by omega) hy.1) _ _ _ (hP.sub [0, 1, 2, 3, 4, 5, 6, 7, 8, 9] rfl) (hD.sub [0, 1, 2, 3, 4, 5, 6, 7, 8, 9] (by decide) rfl) hS (lv_sub hl [1, 2, 3, 4, 5, 6, 7, 0] rfl)
            · skip
              have c_66 : ¬ (c + w) ≤ x := fun z => c_66 ((nI_leI (a := (c + w)) (b := x) (by omega) (by omega)).mpr z)
              refine lv_iload hx hb dX3_copy_69 (lv_at hl 8 rfl) ?_
              refine lv_iload hx hb dX3_copy_71 (lv_at hl 5 rfl) ?_
              refine lv_iadd hx hb dX3_copy_73 ?_
              refine lv_iload hx hb dX3_copy_74 (lv_at hl 7 rfl) ?_
              refine lv_iload hx hb dX3_copy_76 (lv_at hl 6 rfl) ?_
              refine lv_iadd hx hb dX3_copy_78 ?_
              refine gc_Si (va_runS (As := [.int ((nI x) + dx), .int ((nI y) + dy)]) (rest := []) ⟨hx, hb, hml, hown, hts⟩ (c_X3_isCell l D cy ((nI x) + dx) ((nI y) + dy)) (va_cwS 2 hts gX3_copy_X3_isCell rfl rfl rfl (by decide +kernel) ⟨Nat.le_of_ble_eq_true rfl, Nat.le_of_ble_eq_true rfl⟩) (gpSR hG (hP.sub [] rfl)) rfl rfl hl.1 rfl (lv_room (Nat.le_of_ble_eq_true rfl)) dX3_copy_79 ⟨Nat.zero_le _, Nat.zero_le _⟩) ?_
              refine lv_if_eq (tgt := 113) hx hb dX3_copy_82 (by decide) (fun c_82 => ?_) (fun c_82 => ?_)
              · skip
                have c_82 : ¬ (pCell ((nI x) + dx) ((nI y) + dy)) := gb_eq0.mp c_82
                refine lv_iinc (v := nI (x + 1)) (lv' := [(8, .int (nI (x + 1))), (0, .ref (a 0)), (1, .int (nI c)), (2, .int (nI r)), (3, .int (nI w)), (4, .int (nI m)), (5, .int dx), (6, .int dy), (7, .int (nI y))]) hx hb dX3_copy_113 hl (k := 8) rfl (nI_1 _) (by decide) rfl (fun ls hl => ?_)
                refine lv_goto (tgt := 61) hx hb dX3_copy_116 (by decide) ?_
                exact ih_61 (x + 1) g2 (by omega) (by omega) (by first | (rw [hw_110]; exact valC_x hd2 hX2 hY2 (by omega) hx9.1 (at2_cong hw_43 (by omega) (by omega))) | exact valC_n hd2 (fun z => c_82 (by have q1 := addI (x := x) (by omega) hdx9; have q2 := addI (x := y) (by omega) hdy9; exact ⟨⟨by omega, by omega⟩, ⟨by omega, by omega⟩⟩))) _ _ _ (hP.sub [0, 1, 2, 3, 4, 5, 6, 7, 8, 9] rfl) (hD.sub [0, 1, 2, 3, 4, 5, 6, 7, 8, 9] (by decide) rfl) hS (lv_sub hl [1, 2, 3, 4, 5, 6, 7, 8, 0] rfl)
              · skip
                have c_82 : pCell ((nI x) + dx) ((nI y) + dy) := gb_ne0.mp c_82
                obtain ⟨X, hX1, eX, hX2⟩ := addN (by omega) hdx9 (n := 15) c_82.1 (by decide)
                obtain ⟨Y, hY1, eY, hY2⟩ := addN (by omega) hdy9 (n := 11) c_82.2 (by decide)
                refine lv_aload_n hx hb dX3_copy_85 rfl (lv_at hl 0 rfl) ?_
                refine va_get (D := D) (ci := 3) (v := .ref (a 1)) (C := RX3) (T := TX3) (N := 5) hx hb hts iX3_copy_X3 hown hG.1 hP 0 rfl rfl 0 (by decide) (hts (.fieldLink RX3 10 "DirtyTiles" "screen" "LDirtyTiles$Screen;") (by decide +kernel)) (fun _ h9 => h9) rfl dX3_copy_86 ?_
                refine lv_iload hx hb dX3_copy_89 (lv_at hl 8 rfl) ?_
                refine lv_iload hx hb dX3_copy_91 (lv_at hl 5 rfl) ?_
                refine lv_iadd hx hb dX3_copy_93 ?_
                refine g_ti (y := nI X) (eX) ?_
                refine lv_iload hx hb dX3_copy_94 (lv_at hl 7 rfl) ?_
                refine lv_iload hx hb dX3_copy_96 (lv_at hl 6 rfl) ?_
                refine lv_iadd hx hb dX3_copy_98 ?_
                refine g_ti (y := nI Y) (eY) ?_
                refine lv_aload_n hx hb dX3_copy_99 rfl (lv_at hl 0 rfl) ?_
                refine va_get (D := D) (ci := 3) (v := .ref (a 3)) (C := RX3) (T := TX3) (N := 5) hx hb hts iX3_copy_X3 hown hG.1 hP 0 rfl rfl 1 (by decide) (hts (.fieldLink RX3 16 "DirtyTiles" "screenBefore" "LDirtyTiles$Screen;") (by decide +kernel)) (fun _ h9 => h9) rfl dX3_copy_100 ?_
                refine lv_iload hx hb dX3_copy_103 (lv_at hl 8 rfl) ?_
                refine lv_iload hx hb dX3_copy_105 (lv_at hl 7 rfl) ?_
                refine gc_Si (va_runV (As := [.int (nI x), .int (nI y)]) (rest := [.int (nI Y), .int (nI X), .ref (a 1)]) ⟨hx, hb, hml, hown, hts⟩ (c_X2_colourAt l D cy (a 3) (a 4) b1 x y (by omega) (by omega)) (cwV 2 hts gX3_copy_X2_colourAt rfl rfl rfl (by decide +kernel) ⟨Nat.le_of_ble_eq_true rfl, Nat.le_of_ble_eq_true rfl⟩) (gpVR (ci := 2) (q0 := 0) hG (hP.sub [3, 4] rfl) rfl rfl) rfl rfl hl.1 rfl (lv_room (Nat.le_of_ble_eq_true rfl)) dX3_copy_107 ⟨Nat.zero_le _, Nat.zero_le _⟩) ?_
                refine g_ti (y := nI (at2 b1 x y)) (rfl) ?_
                refine gc_Wv (wn := fun u => [(a 0, eTop (a 1) (a 3) (a 5) (a 6) uw), (a 1, eScr (a 2)), (a 2, eJ cy 12 u), (a 3, eScr (a 4)), (a 4, eJ cy 12 b1), (a 5, eQ cy 2 g), (q 0, eCli (gb (J)) (q 1) (q 3) (q 5) (q 7) (nI L.length) (q 8) (q 9) k), (q 7, eI cy 12 f), (r9 0, eCli (gb (J9)) (r9 1) (r9 3) (r9 5) (r9 7) (nI K.length) (r9 8) (r9 9) k9), (r9 7, eI cy 12 h)]) (wr := [(a 0, eTop (a 1) (a 3) (a 5) (a 6) uw), (a 3, eScr (a 4)), (a 4, eJ cy 12 b1), (a 5, eQ cy 2 g), (q 0, eCli (gb (J)) (q 1) (q 3) (q 5) (q 7) (nI L.length) (q 8) (q 9) k), (q 7, eI cy 12 f), (r9 0, eCli (gb (J9)) (r9 1) (r9 3) (r9 5) (r9 7) (nI K.length) (r9 8) (r9 9) k9), (r9 7, eI cy 12 h)]) (va_runV (As := [.int (nI X), .int (nI Y), .int (nI (at2 b1 x y))]) (rest := []) ⟨hx, hb, hml, hown, hts⟩ (c_X2_paint l D cy H.size (a 1) (a 2) g2 X Y (at2 b1 x y) (by omega) (by omega) (cel_lt _ _)) (cwV 3 hts gX3_copy_X2_paint rfl rfl rfl (by decide +kernel) ⟨Nat.le_of_ble_eq_true rfl, Nat.le_of_ble_eq_true rfl⟩) (gpVI (ci := 2) (q0 := 0) hG (hP.sub [1, 2] rfl) (hD.sub [1, 2] (by decide) rfl) rfl rfl) rfl rfl hl.1 rfl (lv_room (Nat.le_of_ble_eq_true rfl)) dX3_copy_110 ⟨Nat.zero_le _, Nat.zero_le _⟩) hP hD hS hA [1, 2] [0, 3, 4, 5, 6, 7, 8, 9] [0, 8, 9, 1, 2, 3, 4, 5, 6, 7] rfl rfl (by decide) (by decide) (fun _ => rfl) (by decide) (fun g3 H locs hw_110 hP hD hS => ?_)
                have hP : va_P D vwCl [(a 0, eTop (a 1) (a 3) (a 5) (a 6) uw), (a 1, eScr (a 2)), (a 2, eJ cy 12 g3), (a 3, eScr (a 4)), (a 4, eJ cy 12 b1), (a 5, eQ cy 2 g), (q 0, eCli (gb (J)) (q 1) (q 3) (q 5) (q 7) (nI L.length) (q 8) (q 9) k), (q 7, eI cy 12 f), (r9 0, eCli (gb (J9)) (r9 1) (r9 3) (r9 5) (r9 7) (nI K.length) (r9 8) (r9 9) k9), (r9 7, eI cy 12 h)] H := hP
                have hD : va_D AA [(a 0, eTop (a 1) (a 3) (a 5) (a 6) uw), (a 1, eScr (a 2)), (a 2, eJ cy 12 g3), (a 3, eScr (a 4)), (a 4, eJ cy 12 b1), (a 5, eQ cy 2 g), (q 0, eCli (gb (J)) (q 1) (q 3) (q 5) (q 7) (nI L.length) (q 8) (q 9) k), (q 7, eI cy 12 f), (r9 0, eCli (gb (J9)) (r9 1) (r9 3) (r9 5) (r9 7) (nI K.length) (r9 8) (r9 9) k9), (r9 7, eI cy 12 h)] := hD
                have hw_110 : g3 = vp_updL g2 (tl X Y) (gput (g2 (tl X Y)) (plc X Y) (at2 b1 x y)) := hw_110
                refine lv_iinc (v := nI (x + 1)) (lv' := [(8, .int (nI (x + 1))), (0, .ref (a 0)), (1, .int (nI c)), (2, .int (nI r)), (3, .int (nI w)), (4, .int (nI m)), (5, .int dx), (6, .int dy), (7, .int (nI y))]) hx hb dX3_copy_113 hl (k := 8) rfl (nI_1 _) (by decide) rfl (fun ls hl => ?_)
                refine lv_goto (tgt := 61) hx hb dX3_copy_116 (by decide) ?_
                exact ih_61 (x + 1) g3 (by omega) (by omega) (by first | (rw [hw_110]; exact valC_x hd2 hX2 hY2 (by omega) hx9.1 (at2_cong hw_43 (by omega) (by omega))) | exact valC_n hd2 (fun z => c_82 (by have q1 := addI (x := x) (by omega) hdx9; have q2 := addI (x := y) (by omega) hdy9; exact ⟨⟨by omega, by omega⟩, ⟨by omega, by omega⟩⟩))) _ _ _ (hP.sub [0, 1, 2, 3, 4, 5, 6, 7, 8, 9] rfl) (hD.sub [0, 1, 2, 3, 4, 5, 6, 7, 8, 9] (by decide) rfl) hS (lv_sub hl [1, 2, 3, 4, 5, 6, 7, 8, 0] rfl)
        exact loop_61 ((c + w - c) + 1) c g1 (Nat.lt_succ_self _) (by omega) hd1 _ _ _ (hP.sub [0, 1, 2, 3, 4, 5, 6, 7, 8, 9] rfl) (hD.sub [0, 1, 2, 3, 4, 5, 6, 7, 8, 9] (by decide) rfl) hS (lv_sub hl [1, 2, 3, 4, 5, 6, 7, 8, 0] rfl)
  exact loop_49 ((r + m - r) + 1) r fs (Nat.lt_succ_self _) (by omega) (valC_0 fs c r w _ _) _ _ _ (hP.sub [0, 1, 2, 3, 4, 5, 6, 7, 8, 9] rfl) (hD.sub [0, 1, 2, 3, 4, 5, 6, 7, 8, 9] (by decide) rfl) hS (lv_sub hl [1, 2, 3, 4, 5, 6, 7, 0] rfl)
theorem iX3_join_X3 : ∀ w ∈ wsX30, w ∈ wsX3_join := by decide +kernel
set_option maxHeartbeats 4000000 in
set_option maxRecDepth 100000 in
theorem c_X3_join (l : Launch) (D : va_G) (cy : Nat → ClassId) (sz : Nat) (a q : Nat → Nat) (uw : Int32) (g : Nat → Option Nat) (i : Nat) (J : Prop) (dc k no nc : Int32) (fs fo fc : Nat → Int64) (fd : Nat → Int32) (hi : i < 2) (hg : g i = some (q 0)) : Met l yX3_join wsX3_join ({ frames := 2, cells := 0, slots := 0, locals := 42 } : Room) (va_Pc [.ref (a 0), .int (nI i)] (gI D (gT cy) [(a 0, eTop (a 1) (a 3) (a 5) (a 6) uw), (a 5, eQ cy 2 g), (q 0, eCli (gb (J)) (q 1) (q 3) (q 5) (q 7) dc (q 8) (q 9) k), (q 1, eScr (q 2)), (q 2, eJ cy 12 fs), (q 3, eCch (q 4) no), (q 4, eJ cy 6 fo), (q 5, eCch (q 6) nc), (q 6, eJ cy 6 fc), (q 7, eI cy 12 fd)] sz)) (va_Qi (fun (r9 : Int32) (u : (Nat → Int64) × (Nat → Int32)) => r9 = nI 12 ∧ (((∀ k, k < 12 → u.1 k = 0) ∧ (∀ k, k < 12 → u.2 k = nI k)))) (gO D (fun u : (Nat → Int64) × (Nat → Int32) => [(a 0, eTop (a 1) (a 3) (a 5) (a 6) uw), (a 5, eQ cy 2 g), (q 0, eCli (gb (True)) (q 1) (q 3) (q 5) (q 7) (nI 12) (q 8) (q 9) (nI 0)), (q 1, eScr (q 2)), (q 2, eJ cy 12 u.1), (q 3, eCch (q 4) (nI 0)), (q 4, eJ cy 6 fo), (q 5, eCch (q 6) (nI 0)), (q 6, eJ cy 6 fc), (q 7, eI cy 12 u.2)]) (va_A [(a 0, eTop (a 1) (a 3) (a 5) (a 6) uw), (a 5, eQ cy 2 g), (q 0, eCli (gb (J)) (q 1) (q 3) (q 5) (q 7) dc (q 8) (q 9) k), (q 1, eScr (q 2)), (q 2, eJ cy 12 fs), (q 3, eCch (q 4) no), (q 4, eJ cy 6 fo), (q 5, eCch (q 6) nc), (q 6, eJ cy 6 fc), (q 7, eI cy 12 fd)] sz)) (va_A [(a 0, eTop (a 1) (a 3) (a 5) (a 6) uw), (a 5, eQ cy 2 g), (q 0, eCli (gb (J)) (q 1) (q 3) (q 5) (q 7) dc (q 8) (q 9) k), (q 1, eScr (q 2)), (q 2, eJ cy 12 fs), (q 3, eCch (q 4) no), (q 4, eJ cy 6 fo), (q 5, eCch (q 6) nc), (q 6, eJ cy 6 fc), (q 7, eI cy 12 fd)] sz)) 0 0 (va_A [(a 0, eTop (a 1) (a 3) (a 5) (a 6) uw), (a 5, eQ cy 2 g), (q 0, eCli (gb (J)) (q 1) (q 3) (q 5) (q 7) dc (q 8) (q 9) k), (q 1, eScr (q 2)), (q 2, eJ cy 12 fs), (q 3, eCch (q 4) no), (q 4, eJ cy 6 fo), (q 5, eCch (q 6) nc), (q 6, eJ cy 6 fc), (q 7, eI cy 12 fd)] sz) := by
  refine gW_i (cc := cX3_join) (maxL := 2) (ty := .int) (by decide) rfl (Nat.le_of_ble_eq_true rfl) (fun v u hv => by rfl) ?_
  intro pp ee ss mm bw mt cd QQ AA ls hfx hP hG hD hA hret hl
  have hS : va_S AA ss.heap ss.heap [] := va_S.rf
  obtain ⟨H, eH⟩ : ∃ H, H = ss.heap := ⟨_, rfl⟩
  obtain ⟨locs, eL⟩ : ∃ L : List Loc, L = [] := ⟨_, rfl⟩
  have hP : va_P D vwCl [(a 0, eTop (a 1) (a 3) (a 5) (a 6) uw), (a 5, eQ cy 2 g), (q 0, eCli (gb (J)) (q 1) (q 3) (q 5) (q 7) dc (q 8) (q 9) k), (q 1, eScr (q 2)), (q 2, eJ cy 12 fs), (q 3, eCch (q 4) no), (q 4, eJ cy 6 fo), (q 5, eCch (q 6) nc), (q 6, eJ cy 6 fc), (q 7, eI cy 12 fd)] H := by rw [eH]; exact hP
  have hS : va_S AA ss.heap H locs := by rw [eH, eL]; exact hS
  have goal : ∀ X Y, X = H → Y = locs → W pp l ee ({ frames := 2, cells := 0, slots := 0, locals := 42 } : Room) ss mm ([.ref (a 0), .int (nI i)] : List Value).toArray bw mt cd X Y 0 0 QQ (F0 mm 0 ls []) → W pp l ee ({ frames := 2, cells := 0, slots := 0, locals := 42 } : Room) ss mm ([.ref (a 0), .int (nI i)] : List Value).toArray bw mt cd ss.heap [] 0 0 QQ (F0 mm 0 ls []) := fun X Y hX hY h => by rw [hX, hY, eH, eL] at h; exact h
  refine goal H locs rfl rfl ?_
  clear goal eH eL
  obtain ⟨hx, hb, hml, hown, hts, hlocks⟩ := hfx
  have hown : ss.vm.findClass RX3 = some mm.cls := hown
  have hl : lv_has ls 2 [(0, .ref (a 0)), (1, .int (nI i))] := hl
  refine lv_iload_n hx hb dX3_join_0 rfl (lv_at hl 1 rfl) ?_
  refine lv_iconst (v := nI 2) hx hb dX3_join_1 (by decide) ?_
  refine gc_Si (va_runS (As := [.int (nI i), .int (nI 2)]) (rest := []) ⟨hx, hb, hml, hown, hts⟩ (c_X3_isIndex l D cy (nI i) (nI 2)) (va_cwS 2 hts gX3_join_X3_isIndex rfl rfl rfl (by decide +kernel) ⟨Nat.le_of_ble_eq_true rfl, Nat.le_of_ble_eq_true rfl⟩) (gpSR hG (hP.sub [] rfl)) rfl rfl hl.1 rfl (lv_room (Nat.le_of_ble_eq_true rfl)) dX3_join_2 ⟨Nat.zero_le _, Nat.zero_le _⟩) ?_
  refine g_ti (y := gb (pIn (nI i) 0 1)) (congrArg (fun z => gb (pIn (nI i) 0 z)) (by decide)) ?_
  refine gc_Sv (va_runS (As := [.int (gb (pIn (nI i) 0 1))]) (rest := []) ⟨hx, hb, hml, hown, hts⟩ (c_X3_requireArgument l D cy (gb (pIn (nI i) 0 1)) (gb_ne0.mpr (ok_idx (n := 1) (by omega) (by decide)))) (va_cwS 1 hts gX3_join_X3_requireArgument rfl rfl rfl (by decide +kernel) ⟨Nat.le_of_ble_eq_true rfl, Nat.le_of_ble_eq_true rfl⟩) (gpSR hG (hP.sub [] rfl)) rfl rfl hl.1 rfl (lv_room (Nat.le_of_ble_eq_true rfl)) dX3_join_5 ⟨Nat.zero_le _, Nat.zero_le _⟩) ?_
  refine lv_aload_n hx hb dX3_join_8 rfl (lv_at hl 0 rfl) ?_
  refine va_get (D := D) (ci := 3) (v := .ref (a 5)) (C := RX3) (T := TX3) (N := 5) hx hb hts iX3_join_X3 hown hG.1 hP 0 rfl rfl 2 (by decide) (hts (.fieldLink RX3 21 "DirtyTiles" "clients" "[LDirtyTiles$Client;") (by decide +kernel)) (fun _ h9 => h9) rfl dX3_join_9 ?_
  refine lv_iload_n hx hb dX3_join_12 rfl (lv_at hl 1 rfl) ?_
  refine g_aldq hx hb hG hP 1 3 rfl rfl (k := i) (x := q 0) (by omega) (by decide) hg dX3_join_13 ?_
  refine gc_Wv (wn := fun u => [(a 0, eTop (a 1) (a 3) (a 5) (a 6) uw), (a 5, eQ cy 2 g), (q 0, eCli (gb (True)) (q 1) (q 3) (q 5) (q 7) (nI 12) (q 8) (q 9) (nI 0)), (q 1, eScr (q 2)), (q 2, eJ cy 12 u.1), (q 3, eCch (q 4) (nI 0)), (q 4, eJ cy 6 fo), (q 5, eCch (q 6) (nI 0)), (q 6, eJ cy 6 fc), (q 7, eI cy 12 u.2)]) (wr := [(a 0, eTop (a 1) (a 3) (a 5) (a 6) uw), (a 5, eQ cy 2 g)]) (va_runV (As := []) (rest := []) ⟨hx, hb, hml, hown, hts⟩ (c_X1_beginAnew l D cy H.size q J dc k no nc fs fo fc fd) (cwV 0 hts gX3_join_X1_beginAnew rfl rfl rfl (by decide +kernel) ⟨Nat.le_of_ble_eq_true rfl, Nat.le_of_ble_eq_true rfl⟩) (gpVI (ci := 1) (q0 := 0) hG (hP.sub [2, 3, 4, 5, 6, 7, 8, 9] rfl) (hD.sub [2, 3, 4, 5, 6, 7, 8, 9] (by decide) rfl) rfl rfl) rfl rfl hl.1 rfl (lv_room (Nat.le_of_ble_eq_true rfl)) dX3_join_14 ⟨Nat.zero_le _, Nat.zero_le _⟩) hP hD hS hA [2, 3, 4, 5, 6, 7, 8, 9] [0, 1] [0, 1, 2, 3, 4, 5, 6, 7, 8, 9] rfl rfl (by decide) (by decide) (fun _ => rfl) (by decide) (fun u9 H locs hw_14 hP hD hS => ?_)
  obtain ⟨fs2_14, fd2_14⟩ := u9
  have hP : va_P D vwCl [(a 0, eTop (a 1) (a 3) (a 5) (a 6) uw), (a 5, eQ cy 2 g), (q 0, eCli (gb (True)) (q 1) (q 3) (q 5) (q 7) (nI 12) (q 8) (q 9) (nI 0)), (q 1, eScr (q 2)), (q 2, eJ cy 12 fs2_14), (q 3, eCch (q 4) (nI 0)), (q 4, eJ cy 6 fo), (q 5, eCch (q 6) (nI 0)), (q 6, eJ cy 6 fc), (q 7, eI cy 12 fd2_14)] H := hP
  have hD : va_D AA [(a 0, eTop (a 1) (a 3) (a 5) (a 6) uw), (a 5, eQ cy 2 g), (q 0, eCli (gb (True)) (q 1) (q 3) (q 5) (q 7) (nI 12) (q 8) (q 9) (nI 0)), (q 1, eScr (q 2)), (q 2, eJ cy 12 fs2_14), (q 3, eCch (q 4) (nI 0)), (q 4, eJ cy 6 fo), (q 5, eCch (q 6) (nI 0)), (q 6, eJ cy 6 fc), (q 7, eI cy 12 fd2_14)] := hD
  have hw_14 : (∀ k, k < 12 → fs2_14 k = 0) ∧ (∀ k, k < 12 → fd2_14 k = nI k) := hw_14
  refine lv_aload_n hx hb dX3_join_17 rfl (lv_at hl 0 rfl) ?_
  refine va_get (D := D) (ci := 3) (v := .ref (a 5)) (C := RX3) (T := TX3) (N := 5) hx hb hts iX3_join_X3 hown hG.1 hP 0 rfl rfl 2 (by decide) (hts (.fieldLink RX3 21 "DirtyTiles" "clients" "[LDirtyTiles$Client;") (by decide +kernel)) (fun _ h9 => h9) rfl dX3_join_18 ?_
  refine lv_iload_n hx hb dX3_join_21 rfl (lv_at hl 1 rfl) ?_
  refine g_aldq hx hb hG hP 1 3 rfl rfl (k := i) (x := q 0) (by omega) (by decide) hg dX3_join_22 ?_
  refine gc_Si (va_runV (As := []) (rest := []) ⟨hx, hb, hml, hown, hts⟩ (c_X1_dirtyCount l D cy q True (nI 12) (nI 0)) (cwV 0 hts gX3_join_X1_dirtyCount rfl rfl rfl (by decide +kernel) ⟨Nat.le_of_ble_eq_true rfl, Nat.le_of_ble_eq_true rfl⟩) (gpVR (ci := 1) (q0 := 0) hG (hP.sub [2] rfl) rfl rfl) rfl rfl hl.1 rfl (lv_room (Nat.le_of_ble_eq_true rfl)) dX3_join_23 ⟨Nat.zero_le _, Nat.zero_le _⟩) ?_
  exact hret _ _ _ _ _ ⟨fs2_14, fd2_14⟩ dX3_join_26 (⟨rfl, hw_14⟩) (hP.sub [0, 1, 2, 3, 4, 5, 6, 7, 8, 9] rfl) (hD.sub [0, 1, 2, 3, 4, 5, 6, 7, 8, 9] (by decide) rfl) hS
set_option maxHeartbeats 4000000 in
set_option maxRecDepth 100000 in
theorem c_X3_ask (l : Launch) (D : va_G) (cy : Nat → ClassId) (sz : Nat) (a q : Nat → Nat) (uw : Int32) (g : Nat → Option Nat) (i : Nat) (fs : Nat → Int64) (fw : Nat → Int32) (J : Prop) (L : List Nat) (fd : Nat → Int32) (C : List Int64) (fc : Nat → Int64) (ft : Nat → Int32) (fm : Nat → Int64) (b : Nat) (hi : i < 2) (hg : g i = some (q 0)) (hJ : J) (hL : hN L fd) (ho : okD L) (hC1 : hC C fc) (hC6 : C.length ≤ 6) (hb9 : b ≤ 300) : Met l yX3_ask wsX3_ask ({ frames := 5, cells := 0, slots := 0, locals := 124 } : Room) (va_Pc [.ref (a 0), .int (nI i), .int (nI b)] (gI D (gT cy) [(a 0, eTop (a 1) (a 3) (a 5) (a 6) uw), (a 1, eScr (a 2)), (a 2, eJ cy 12 fs), (a 6, eI cy 5 fw), (q 0, eCli (gb (J)) (q 1) (q 3) (q 5) (q 7) (nI L.length) (q 8) (q 9) (nI 0)), (q 5, eCch (q 6) (nI C.length)), (q 6, eJ cy 6 fc), (q 7, eI cy 12 fd), (q 8, eI cy 12 ft), (q 9, eJ cy 12 fm), (a 5, eQ cy 2 g)] sz)) (va_Qi (fun (r9 : Int32) (u : (List Nat) × (Nat → Int32) × (List (Nat × Int64)) × (Nat → Int32) × (Nat → Int64) × (List Int64) × (Nat → Int64) × Nat × (Nat → Int32)) => r9 = nI u.2.2.1.length ∧ ((askF fs L [] C b fw = (u.1, u.2.2.1, u.2.2.2.2.2.1, u.2.2.2.2.2.2.2.1, u.2.2.2.2.2.2.2.2) ∧ hN u.1 u.2.1 ∧ hM u.2.2.1 u.2.2.2.1 u.2.2.2.2.1 ∧ okM u.2.2.1 ∧ u.2.2.1.length ≤ 12 ∧ hC u.2.2.2.2.2.1 u.2.2.2.2.2.2.1 ∧ u.2.2.2.2.2.1.length ≤ 6 ∧ u.2.2.2.2.2.2.2.1 ≤ b ∧ okD u.1))) (gO D (fun u : (List Nat) × (Nat → Int32) × (List (Nat × Int64)) × (Nat → Int32) × (Nat → Int64) × (List Int64) × (Nat → Int64) × Nat × (Nat → Int32) => [(a 0, eTop (a 1) (a 3) (a 5) (a 6) (uw + nI (b - u.2.2.2.2.2.2.2.1))), (a 1, eScr (a 2)), (a 2, eJ cy 12 fs), (a 6, eI cy 5 u.2.2.2.2.2.2.2.2), (q 0, eCli (gb (J)) (q 1) (q 3) (q 5) (q 7) (nI u.1.length) (q 8) (q 9) (nI u.2.2.1.length)), (q 5, eCch (q 6) (nI u.2.2.2.2.2.1.length)), (q 6, eJ cy 6 u.2.2.2.2.2.2.1), (q 7, eI cy 12 u.2.1), (q 8, eI cy 12 u.2.2.2.1), (q 9, eJ cy 12 u.2.2.2.2.1), (a 5, eQ cy 2 g)]) (va_A [(a 0, eTop (a 1) (a 3) (a 5) (a 6) uw), (a 1, eScr (a 2)), (a 2, eJ cy 12 fs), (a 6, eI cy 5 fw), (q 0, eCli (gb (J)) (q 1) (q 3) (q 5) (q 7) (nI L.length) (q 8) (q 9) (nI 0)), (q 5, eCch (q 6) (nI C.length)), (q 6, eJ cy 6 fc), (q 7, eI cy 12 fd), (q 8, eI cy 12 ft), (q 9, eJ cy 12 fm), (a 5, eQ cy 2 g)] sz)) (va_A [(a 0, eTop (a 1) (a 3) (a 5) (a 6) uw), (a 1, eScr (a 2)), (a 2, eJ cy 12 fs), (a 6, eI cy 5 fw), (q 0, eCli (gb (J)) (q 1) (q 3) (q 5) (q 7) (nI L.length) (q 8) (q 9) (nI 0)), (q 5, eCch (q 6) (nI C.length)), (q 6, eJ cy 6 fc), (q 7, eI cy 12 fd), (q 8, eI cy 12 ft), (q 9, eJ cy 12 fm), (a 5, eQ cy 2 g)] sz)) 0 0 (va_A [(a 0, eTop (a 1) (a 3) (a 5) (a 6) uw), (a 1, eScr (a 2)), (a 2, eJ cy 12 fs), (a 6, eI cy 5 fw), (q 0, eCli (gb (J)) (q 1) (q 3) (q 5) (q 7) (nI L.length) (q 8) (q 9) (nI 0)), (q 5, eCch (q 6) (nI C.length)), (q 6, eJ cy 6 fc), (q 7, eI cy 12 fd), (q 8, eI cy 12 ft), (q 9, eJ cy 12 fm), (a 5, eQ cy 2 g)] sz) := by
  refine gW_i (cc := cX3_ask) (maxL := 3) (ty := .int) (by decide) rfl (Nat.le_of_ble_eq_true rfl) (fun v u hv => by rfl) ?_
  intro pp ee ss mm bw mt cd QQ AA ls hfx hP hG hD hA hret hl
  have hS : va_S AA ss.heap ss.heap [] := va_S.rf
  obtain ⟨H, eH⟩ : ∃ H, H = ss.heap := ⟨_, rfl⟩
  obtain ⟨locs, eL⟩ : ∃ L : List Loc, L = [] := ⟨_, rfl⟩
  have hP : va_P D vwCl [(a 0, eTop (a 1) (a 3) (a 5) (a 6) uw), (a 1, eScr (a 2)), (a 2, eJ cy 12 fs), (a 6, eI cy 5 fw), (q 0, eCli (gb (J)) (q 1) (q 3) (q 5) (q 7) (nI L.length) (q 8) (q 9) (nI 0)), (q 5, eCch (q 6) (nI C.length)), (q 6, eJ cy 6 fc), (q 7, eI cy 12 fd), (q 8, eI cy 12 ft), (q 9, eJ cy 12 fm), (a 5, eQ cy 2 g)] H := by rw [eH]; exact hP
  have hS : va_S AA ss.heap H locs := by rw [eH, eL]; exact hS
  have goal : ∀ X Y, X = H → Y = locs → W pp l ee ({ frames := 5, cells := 0, slots := 0, locals := 124 } : Room) ss mm ([.ref (a 0), .int (nI i), .int (nI b)] : List Value).toArray bw mt cd X Y 0 0 QQ (F0 mm 0 ls []) → W pp l ee ({ frames := 5, cells := 0, slots := 0, locals := 124 } : Room) ss mm ([.ref (a 0), .int (nI i), .int (nI b)] : List Value).toArray bw mt cd ss.heap [] 0 0 QQ (F0 mm 0 ls []) := fun X Y hX hY h => by rw [hX, hY, eH, eL] at h; exact h
  refine goal H locs rfl rfl ?_
  clear goal eH eL
  obtain ⟨hx, hb, hml, hown, hts, hlocks⟩ := hfx
  have hown : ss.vm.findClass RX3 = some mm.cls := hown
  have hl : lv_has ls 3 [(0, .ref (a 0)), (1, .int (nI i)), (2, .int (nI b))] := hl
  refine lv_iload_n hx hb dX3_ask_0 rfl (lv_at hl 1 rfl) ?_
  refine lv_iconst (v := nI 2) hx hb dX3_ask_1 (by decide) ?_
  refine gc_Si (va_runS (As := [.int (nI i), .int (nI 2)]) (rest := []) ⟨hx, hb, hml, hown, hts⟩ (c_X3_isIndex l D cy (nI i) (nI 2)) (va_cwS 2 hts gX3_ask_X3_isIndex rfl rfl rfl (by decide +kernel) ⟨Nat.le_of_ble_eq_true rfl, Nat.le_of_ble_eq_true rfl⟩) (gpSR hG (hP.sub [] rfl)) rfl rfl hl.1 rfl (lv_room (Nat.le_of_ble_eq_true rfl)) dX3_ask_2 ⟨Nat.zero_le _, Nat.zero_le _⟩) ?_
  refine g_ti (y := gb (pIn (nI i) 0 1)) (congrArg (fun z => gb (pIn (nI i) 0 z)) (by decide)) ?_
  refine gc_Sv (va_runS (As := [.int (gb (pIn (nI i) 0 1))]) (rest := []) ⟨hx, hb, hml, hown, hts⟩ (c_X3_requireArgument l D cy (gb (pIn (nI i) 0 1)) (gb_ne0.mpr (ok_idx (n := 1) (by omega) (by decide)))) (va_cwS 1 hts gX3_ask_X3_requireArgument rfl rfl rfl (by decide +kernel) ⟨Nat.le_of_ble_eq_true rfl, Nat.le_of_ble_eq_true rfl⟩) (gpSR hG (hP.sub [] rfl)) rfl rfl hl.1 rfl (lv_room (Nat.le_of_ble_eq_true rfl)) dX3_ask_5 ⟨Nat.zero_le _, Nat.zero_le _⟩) ?_
  refine lv_iload_n hx hb dX3_ask_8 rfl (lv_at hl 2 rfl) ?_
  refine lv_iconst (v := nI 0) hx hb dX3_ask_9 (by decide) ?_
  refine lv_sipush (v := nI 300) hx hb dX3_ask_10 (by decide) ?_
  refine gc_Si (va_runS (As := [.int (nI b), .int (nI 0), .int (nI 300)]) (rest := []) ⟨hx, hb, hml, hown, hts⟩ (c_X3_isBetween l D cy (nI b) (nI 0) (nI 300)) (va_cwS 3 hts gX3_ask_X3_isBetween rfl rfl rfl (by decide +kernel) ⟨Nat.le_of_ble_eq_true rfl, Nat.le_of_ble_eq_true rfl⟩) (gpSR hG (hP.sub [] rfl)) rfl rfl hl.1 rfl (lv_room (Nat.le_of_ble_eq_true rfl)) dX3_ask_13 ⟨Nat.zero_le _, Nat.zero_le _⟩) ?_
  refine g_ti (y := gb (pIn (nI b) 0 300)) ((congrArg (fun z => gb (pIn (nI b) z (nI 300 : Int32).toInt)) (by decide : (nI 0 : Int32).toInt = 0)).trans (congrArg (fun z => gb (pIn (nI b) 0 z)) (by decide : (nI 300 : Int32).toInt = 300))) ?_
  refine gc_Sv (va_runS (As := [.int (gb (pIn (nI b) 0 300))]) (rest := []) ⟨hx, hb, hml, hown, hts⟩ (c_X3_requireArgument l D cy (gb (pIn (nI b) 0 300)) (gb_ne0.mpr (ok_idx (n := 300) (by omega) (by decide)))) (va_cwS 1 hts gX3_ask_X3_requireArgument rfl rfl rfl (by decide +kernel) ⟨Nat.le_of_ble_eq_true rfl, Nat.le_of_ble_eq_true rfl⟩) (gpSR hG (hP.sub [] rfl)) rfl rfl hl.1 rfl (lv_room (Nat.le_of_ble_eq_true rfl)) dX3_ask_16 ⟨Nat.zero_le _, Nat.zero_le _⟩) ?_
  refine lv_aload_n hx hb dX3_ask_19 rfl (lv_at hl 0 rfl) ?_
  refine va_get (D := D) (ci := 3) (v := .ref (a 5)) (C := RX3) (T := TX3) (N := 5) hx hb hts iX3_ask_X3 hown hG.1 hP 0 rfl rfl 2 (by decide) (hts (.fieldLink RX3 21 "DirtyTiles" "clients" "[LDirtyTiles$Client;") (by decide +kernel)) (fun _ h9 => h9) rfl dX3_ask_20 ?_
  refine lv_iload_n hx hb dX3_ask_23 rfl (lv_at hl 1 rfl) ?_
  refine g_aldq hx hb hG hP 10 3 rfl rfl (k := i) (x := q 0) (by omega) (by decide) hg dX3_ask_24 ?_
  refine gc_Si (va_runV (As := []) (rest := []) ⟨hx, hb, hml, hown, hts⟩ (c_X1_hasJoined l D cy q J (nI L.length) (nI 0)) (cwV 0 hts gX3_ask_X1_hasJoined rfl rfl rfl (by decide +kernel) ⟨Nat.le_of_ble_eq_true rfl, Nat.le_of_ble_eq_true rfl⟩) (gpVR (ci := 1) (q0 := 0) hG (hP.sub [4] rfl) rfl rfl) rfl rfl hl.1 rfl (lv_room (Nat.le_of_ble_eq_true rfl)) dX3_ask_25 ⟨Nat.zero_le _, Nat.zero_le _⟩) ?_
  refine gc_Sv (va_runS (As := [.int (gb (J))]) (rest := []) ⟨hx, hb, hml, hown, hts⟩ (c_X3_requireState l D cy (gb (J)) (gb_ne0.mpr (hJ))) (va_cwS 1 hts gX3_ask_X3_requireState rfl rfl rfl (by decide +kernel) ⟨Nat.le_of_ble_eq_true rfl, Nat.le_of_ble_eq_true rfl⟩) (gpSR hG (hP.sub [] rfl)) rfl rfl hl.1 rfl (lv_room (Nat.le_of_ble_eq_true rfl)) dX3_ask_28 ⟨Nat.zero_le _, Nat.zero_le _⟩) ?_
  refine lv_aload_n hx hb dX3_ask_31 rfl (lv_at hl 0 rfl) ?_
  refine va_get (D := D) (ci := 3) (v := .ref (a 5)) (C := RX3) (T := TX3) (N := 5) hx hb hts iX3_ask_X3 hown hG.1 hP 0 rfl rfl 2 (by decide) (hts (.fieldLink RX3 21 "DirtyTiles" "clients" "[LDirtyTiles$Client;") (by decide +kernel)) (fun _ h9 => h9) rfl dX3_ask_32 ?_
  refine lv_iload_n hx hb dX3_ask_35 rfl (lv_at hl 1 rfl) ?_
  refine g_aldq hx hb hG hP 10 3 rfl rfl (k := i) (x := q 0) (by omega) (by decide) hg dX3_ask_36 ?_
  refine gc_Si (va_runV (As := []) (rest := []) ⟨hx, hb, hml, hown, hts⟩ (c_X1_hasMessage l D cy q J (nI L.length) 0 (by omega)) (cwV 0 hts gX3_ask_X1_hasMessage rfl rfl rfl (by decide +kernel) ⟨Nat.le_of_ble_eq_true rfl, Nat.le_of_ble_eq_true rfl⟩) (gpVR (ci := 1) (q0 := 0) hG (hP.sub [4] rfl) rfl rfl) rfl rfl hl.1 rfl (lv_room (Nat.le_of_ble_eq_true rfl)) dX3_ask_37 ⟨Nat.zero_le _, Nat.zero_le _⟩) ?_
  refine lv_if_ne (tgt := 47) hx hb dX3_ask_40 (by decide) (fun c_40 => ?_) (fun c_40 => ?_)
  · skip
    have c_40 : 0 < 0 := gb_ne0.mp c_40
    exact absurd c_40 (by omega)
  · skip
    have c_40 : ¬ (0 < 0) := gb_eq0.mp c_40
    refine lv_iconst (v := nI 1) hx hb dX3_ask_43 (by decide) ?_
    refine lv_goto (tgt := 48) hx hb dX3_ask_44 (by decide) ?_
    refine gc_Sv (va_runS (As := [.int (nI 1)]) (rest := []) ⟨hx, hb, hml, hown, hts⟩ (c_X3_requireState l D cy (nI 1) (by decide)) (va_cwS 1 hts gX3_ask_X3_requireState rfl rfl rfl (by decide +kernel) ⟨Nat.le_of_ble_eq_true rfl, Nat.le_of_ble_eq_true rfl⟩) (gpSR hG (hP.sub [] rfl)) rfl rfl hl.1 rfl (lv_room (Nat.le_of_ble_eq_true rfl)) dX3_ask_48 ⟨Nat.zero_le _, Nat.zero_le _⟩) ?_
    refine lv_aload_n hx hb dX3_ask_51 rfl (lv_at hl 0 rfl) ?_
    refine lv_aload_n hx hb dX3_ask_52 rfl (lv_at hl 0 rfl) ?_
    refine va_get (D := D) (ci := 3) (v := .ref (a 5)) (C := RX3) (T := TX3) (N := 5) hx hb hts iX3_ask_X3 hown hG.1 hP 0 rfl rfl 2 (by decide) (hts (.fieldLink RX3 21 "DirtyTiles" "clients" "[LDirtyTiles$Client;") (by decide +kernel)) (fun _ h9 => h9) rfl dX3_ask_53 ?_
    refine lv_iload_n hx hb dX3_ask_56 rfl (lv_at hl 1 rfl) ?_
    refine g_aldq hx hb hG hP 10 3 rfl rfl (k := i) (x := q 0) (by omega) (by decide) hg dX3_ask_57 ?_
    refine lv_iload_n hx hb dX3_ask_58 rfl (lv_at hl 2 rfl) ?_
    refine gc_Wv (wn := fun u => [(a 0, eTop (a 1) (a 3) (a 5) (a 6) (uw + nI (b - u.2.2.2.2.2.2.2.1))), (a 1, eScr (a 2)), (a 2, eJ cy 12 fs), (a 6, eI cy 5 u.2.2.2.2.2.2.2.2), (q 0, eCli (gb (J)) (q 1) (q 3) (q 5) (q 7) (nI u.1.length) (q 8) (q 9) (nI u.2.2.1.length)), (q 5, eCch (q 6) (nI u.2.2.2.2.2.1.length)), (q 6, eJ cy 6 u.2.2.2.2.2.2.1), (q 7, eI cy 12 u.2.1), (q 8, eI cy 12 u.2.2.2.1), (q 9, eJ cy 12 u.2.2.2.2.1), (a 5, eQ cy 2 g)]) (wr := [(a 5, eQ cy 2 g)]) (va_runV (As := [.ref (q 0), .int (nI b)]) (rest := []) ⟨hx, hb, hml, hown, hts⟩ (c_X3_writeMessage l D cy H.size a q uw fs fw J L fd C fc ft fm b hL ho hC1 hC6 hb9) (cwV 2 hts gX3_ask_X3_writeMessage rfl rfl rfl (by decide +kernel) ⟨Nat.le_of_ble_eq_true rfl, Nat.le_of_ble_eq_true rfl⟩) (gpVI (ci := 3) (q0 := 0) hG (hP.sub [0, 1, 2, 3, 4, 5, 6, 7, 8, 9] rfl) (hD.sub [0, 1, 2, 3, 4, 5, 6, 7, 8, 9] (by decide) rfl) rfl rfl) rfl rfl hl.1 rfl (lv_room (Nat.le_of_ble_eq_true rfl)) dX3_ask_59 ⟨Nat.zero_le _, Nat.zero_le _⟩) hP hD hS hA [0, 1, 2, 3, 4, 5, 6, 7, 8, 9] [10] [1, 2, 3, 4, 5, 6, 7, 8, 9, 10, 0] rfl rfl (by decide) (by decide) (fun _ => rfl) (by decide) (fun u9 H locs hw_59 hP hD hS => ?_)
    obtain ⟨L2_59, fd2_59, M2_59, ft2_59, fm2_59, C2_59, fc2_59, left2_59, fw2_59⟩ := u9
    have hP : va_P D vwCl [(a 0, eTop (a 1) (a 3) (a 5) (a 6) (uw + nI (b - left2_59))), (a 1, eScr (a 2)), (a 2, eJ cy 12 fs), (a 6, eI cy 5 fw2_59), (q 0, eCli (gb (J)) (q 1) (q 3) (q 5) (q 7) (nI L2_59.length) (q 8) (q 9) (nI M2_59.length)), (q 5, eCch (q 6) (nI C2_59.length)), (q 6, eJ cy 6 fc2_59), (q 7, eI cy 12 fd2_59), (q 8, eI cy 12 ft2_59), (q 9, eJ cy 12 fm2_59), (a 5, eQ cy 2 g)] H := hP
    have hD : va_D AA [(a 0, eTop (a 1) (a 3) (a 5) (a 6) (uw + nI (b - left2_59))), (a 1, eScr (a 2)), (a 2, eJ cy 12 fs), (a 6, eI cy 5 fw2_59), (q 0, eCli (gb (J)) (q 1) (q 3) (q 5) (q 7) (nI L2_59.length) (q 8) (q 9) (nI M2_59.length)), (q 5, eCch (q 6) (nI C2_59.length)), (q 6, eJ cy 6 fc2_59), (q 7, eI cy 12 fd2_59), (q 8, eI cy 12 ft2_59), (q 9, eJ cy 12 fm2_59), (a 5, eQ cy 2 g)] := hD
    have hw_59 : askF fs L [] C b fw = (L2_59, M2_59, C2_59, left2_59, fw2_59) ∧ hN L2_59 fd2_59 ∧ hM M2_59 ft2_59 fm2_59 ∧ okM M2_59 ∧ M2_59.length ≤ 12 ∧ hC C2_59 fc2_59 ∧ C2_59.length ≤ 6 ∧ left2_59 ≤ b ∧ okD L2_59 := hw_59
    refine lv_aload_n hx hb dX3_ask_62 rfl (lv_at hl 0 rfl) ?_
    refine va_get (D := D) (ci := 3) (v := .ref (a 5)) (C := RX3) (T := TX3) (N := 5) hx hb hts iX3_ask_X3 hown hG.1 hP 0 rfl rfl 2 (by decide) (hts (.fieldLink RX3 21 "DirtyTiles" "clients" "[LDirtyTiles$Client;") (by decide +kernel)) (fun _ h9 => h9) rfl dX3_ask_63 ?_
    refine lv_iload_n hx hb dX3_ask_66 rfl (lv_at hl 1 rfl) ?_
    refine g_aldq hx hb hG hP 10 3 rfl rfl (k := i) (x := q 0) (by omega) (by decide) hg dX3_ask_67 ?_
    refine gc_Si (va_runV (As := []) (rest := []) ⟨hx, hb, hml, hown, hts⟩ (c_X1_messageCount l D cy q J (nI L2_59.length) (nI M2_59.length)) (cwV 0 hts gX3_ask_X1_messageCount rfl rfl rfl (by decide +kernel) ⟨Nat.le_of_ble_eq_true rfl, Nat.le_of_ble_eq_true rfl⟩) (gpVR (ci := 1) (q0 := 0) hG (hP.sub [4] rfl) rfl rfl) rfl rfl hl.1 rfl (lv_room (Nat.le_of_ble_eq_true rfl)) dX3_ask_68 ⟨Nat.zero_le _, Nat.zero_le _⟩) ?_
    exact hret _ _ _ _ _ ⟨L2_59, fd2_59, M2_59, ft2_59, fm2_59, C2_59, fc2_59, left2_59, fw2_59⟩ dX3_ask_71 (⟨rfl, hw_59⟩) (hP.sub [0, 1, 2, 3, 4, 5, 6, 7, 8, 9, 10] rfl) (hD.sub [0, 1, 2, 3, 4, 5, 6, 7, 8, 9, 10] (by decide) rfl) hS
set_option maxHeartbeats 4000000 in
set_option maxRecDepth 100000 in
theorem c_X3_answer (l : Launch) (D : va_G) (cy : Nat → ClassId) (sz : Nat) (a q : Nat → Nat) (uw : Int32) (g : Nat → Option Nat) (i : Nat) (J : Prop) (dc : Int32) (fs : Nat → Int64) (L : List Int64) (f : Nat → Int64) (M : List (Nat × Int64)) (ft : Nat → Int32) (fm : Nat → Int64) (hi : i < 2) (hg : g i = some (q 0)) (hJ : J) (hf : hC L f) (hL : L.length ≤ 6) (hm9 : hM M ft fm) (hn : M.length ≤ 12) (ho : okM M) (h0 : 0 < M.length) : Met l yX3_answer wsX3_answer ({ frames := 3, cells := 0, slots := 0, locals := 76 } : Room) (va_Pc [.ref (a 0), .int (nI i)] (gI D (gT cy) [(a 0, eTop (a 1) (a 3) (a 5) (a 6) uw), (a 5, eQ cy 2 g), (q 0, eCli (gb (J)) (q 1) (q 3) (q 5) (q 7) dc (q 8) (q 9) (nI M.length)), (q 1, eScr (q 2)), (q 2, eJ cy 12 fs), (q 3, eCch (q 4) (nI L.length)), (q 4, eJ cy 6 f), (q 8, eI cy 12 ft), (q 9, eJ cy 12 fm)] sz)) (va_Qi (fun (r9 : Int32) (u : (Nat → Int64) × (List Int64) × (Nat → Int64)) => r9 = nI M.length ∧ (u.1 = scrF M fs ∧ u.2.1 = cchF M L ∧ (hC u.2.1 u.2.2 ∧ u.2.1.length ≤ 6))) (gO D (fun u : (Nat → Int64) × (List Int64) × (Nat → Int64) => [(a 0, eTop (a 1) (a 3) (a 5) (a 6) uw), (a 5, eQ cy 2 g), (q 0, eCli (gb (J)) (q 1) (q 3) (q 5) (q 7) dc (q 8) (q 9) (nI 0)), (q 1, eScr (q 2)), (q 2, eJ cy 12 u.1), (q 3, eCch (q 4) (nI u.2.1.length)), (q 4, eJ cy 6 u.2.2), (q 8, eI cy 12 ft), (q 9, eJ cy 12 fm)]) (va_A [(a 0, eTop (a 1) (a 3) (a 5) (a 6) uw), (a 5, eQ cy 2 g), (q 0, eCli (gb (J)) (q 1) (q 3) (q 5) (q 7) dc (q 8) (q 9) (nI M.length)), (q 1, eScr (q 2)), (q 2, eJ cy 12 fs), (q 3, eCch (q 4) (nI L.length)), (q 4, eJ cy 6 f), (q 8, eI cy 12 ft), (q 9, eJ cy 12 fm)] sz)) (va_A [(a 0, eTop (a 1) (a 3) (a 5) (a 6) uw), (a 5, eQ cy 2 g), (q 0, eCli (gb (J)) (q 1) (q 3) (q 5) (q 7) dc (q 8) (q 9) (nI M.length)), (q 1, eScr (q 2)), (q 2, eJ cy 12 fs), (q 3, eCch (q 4) (nI L.length)), (q 4, eJ cy 6 f), (q 8, eI cy 12 ft), (q 9, eJ cy 12 fm)] sz)) 0 0 (va_A [(a 0, eTop (a 1) (a 3) (a 5) (a 6) uw), (a 5, eQ cy 2 g), (q 0, eCli (gb (J)) (q 1) (q 3) (q 5) (q 7) dc (q 8) (q 9) (nI M.length)), (q 1, eScr (q 2)), (q 2, eJ cy 12 fs), (q 3, eCch (q 4) (nI L.length)), (q 4, eJ cy 6 f), (q 8, eI cy 12 ft), (q 9, eJ cy 12 fm)] sz) := by
  refine gW_i (cc := cX3_answer) (maxL := 2) (ty := .int) (by decide) rfl (Nat.le_of_ble_eq_true rfl) (fun v u hv => by rfl) ?_
  intro pp ee ss mm bw mt cd QQ AA ls hfx hP hG hD hA hret hl
  have hS : va_S AA ss.heap ss.heap [] := va_S.rf
  obtain ⟨H, eH⟩ : ∃ H, H = ss.heap := ⟨_, rfl⟩
  obtain ⟨locs, eL⟩ : ∃ L : List Loc, L = [] := ⟨_, rfl⟩
  have hP : va_P D vwCl [(a 0, eTop (a 1) (a 3) (a 5) (a 6) uw), (a 5, eQ cy 2 g), (q 0, eCli (gb (J)) (q 1) (q 3) (q 5) (q 7) dc (q 8) (q 9) (nI M.length)), (q 1, eScr (q 2)), (q 2, eJ cy 12 fs), (q 3, eCch (q 4) (nI L.length)), (q 4, eJ cy 6 f), (q 8, eI cy 12 ft), (q 9, eJ cy 12 fm)] H := by rw [eH]; exact hP
  have hS : va_S AA ss.heap H locs := by rw [eH, eL]; exact hS
  have goal : ∀ X Y, X = H → Y = locs → W pp l ee ({ frames := 3, cells := 0, slots := 0, locals := 76 } : Room) ss mm ([.ref (a 0), .int (nI i)] : List Value).toArray bw mt cd X Y 0 0 QQ (F0 mm 0 ls []) → W pp l ee ({ frames := 3, cells := 0, slots := 0, locals := 76 } : Room) ss mm ([.ref (a 0), .int (nI i)] : List Value).toArray bw mt cd ss.heap [] 0 0 QQ (F0 mm 0 ls []) := fun X Y hX hY h => by rw [hX, hY, eH, eL] at h; exact h
  refine goal H locs rfl rfl ?_
  clear goal eH eL
  obtain ⟨hx, hb, hml, hown, hts, hlocks⟩ := hfx
  have hown : ss.vm.findClass RX3 = some mm.cls := hown
  have hl : lv_has ls 2 [(0, .ref (a 0)), (1, .int (nI i))] := hl
  refine lv_iload_n hx hb dX3_answer_0 rfl (lv_at hl 1 rfl) ?_
  refine lv_iconst (v := nI 2) hx hb dX3_answer_1 (by decide) ?_
  refine gc_Si (va_runS (As := [.int (nI i), .int (nI 2)]) (rest := []) ⟨hx, hb, hml, hown, hts⟩ (c_X3_isIndex l D cy (nI i) (nI 2)) (va_cwS 2 hts gX3_answer_X3_isIndex rfl rfl rfl (by decide +kernel) ⟨Nat.le_of_ble_eq_true rfl, Nat.le_of_ble_eq_true rfl⟩) (gpSR hG (hP.sub [] rfl)) rfl rfl hl.1 rfl (lv_room (Nat.le_of_ble_eq_true rfl)) dX3_answer_2 ⟨Nat.zero_le _, Nat.zero_le _⟩) ?_
  refine g_ti (y := gb (pIn (nI i) 0 1)) (congrArg (fun z => gb (pIn (nI i) 0 z)) (by decide)) ?_
  refine gc_Sv (va_runS (As := [.int (gb (pIn (nI i) 0 1))]) (rest := []) ⟨hx, hb, hml, hown, hts⟩ (c_X3_requireArgument l D cy (gb (pIn (nI i) 0 1)) (gb_ne0.mpr (ok_idx (n := 1) (by omega) (by decide)))) (va_cwS 1 hts gX3_answer_X3_requireArgument rfl rfl rfl (by decide +kernel) ⟨Nat.le_of_ble_eq_true rfl, Nat.le_of_ble_eq_true rfl⟩) (gpSR hG (hP.sub [] rfl)) rfl rfl hl.1 rfl (lv_room (Nat.le_of_ble_eq_true rfl)) dX3_answer_5 ⟨Nat.zero_le _, Nat.zero_le _⟩) ?_
  refine lv_aload_n hx hb dX3_answer_8 rfl (lv_at hl 0 rfl) ?_
  refine va_get (D := D) (ci := 3) (v := .ref (a 5)) (C := RX3) (T := TX3) (N := 5) hx hb hts iX3_answer_X3 hown hG.1 hP 0 rfl rfl 2 (by decide) (hts (.fieldLink RX3 21 "DirtyTiles" "clients" "[LDirtyTiles$Client;") (by decide +kernel)) (fun _ h9 => h9) rfl dX3_answer_9 ?_
  refine lv_iload_n hx hb dX3_answer_12 rfl (lv_at hl 1 rfl) ?_
  refine g_aldq hx hb hG hP 1 3 rfl rfl (k := i) (x := q 0) (by omega) (by decide) hg dX3_answer_13 ?_
  refine gc_Si (va_runV (As := []) (rest := []) ⟨hx, hb, hml, hown, hts⟩ (c_X1_hasJoined l D cy q J dc (nI M.length)) (cwV 0 hts gX3_answer_X1_hasJoined rfl rfl rfl (by decide +kernel) ⟨Nat.le_of_ble_eq_true rfl, Nat.le_of_ble_eq_true rfl⟩) (gpVR (ci := 1) (q0 := 0) hG (hP.sub [2] rfl) rfl rfl) rfl rfl hl.1 rfl (lv_room (Nat.le_of_ble_eq_true rfl)) dX3_answer_14 ⟨Nat.zero_le _, Nat.zero_le _⟩) ?_
  refine gc_Sv (va_runS (As := [.int (gb (J))]) (rest := []) ⟨hx, hb, hml, hown, hts⟩ (c_X3_requireState l D cy (gb (J)) (gb_ne0.mpr (hJ))) (va_cwS 1 hts gX3_answer_X3_requireState rfl rfl rfl (by decide +kernel) ⟨Nat.le_of_ble_eq_true rfl, Nat.le_of_ble_eq_true rfl⟩) (gpSR hG (hP.sub [] rfl)) rfl rfl hl.1 rfl (lv_room (Nat.le_of_ble_eq_true rfl)) dX3_answer_17 ⟨Nat.zero_le _, Nat.zero_le _⟩) ?_
  refine lv_aload_n hx hb dX3_answer_20 rfl (lv_at hl 0 rfl) ?_
  refine va_get (D := D) (ci := 3) (v := .ref (a 5)) (C := RX3) (T := TX3) (N := 5) hx hb hts iX3_answer_X3 hown hG.1 hP 0 rfl rfl 2 (by decide) (hts (.fieldLink RX3 21 "DirtyTiles" "clients" "[LDirtyTiles$Client;") (by decide +kernel)) (fun _ h9 => h9) rfl dX3_answer_21 ?_
  refine lv_iload_n hx hb dX3_answer_24 rfl (lv_at hl 1 rfl) ?_
  refine g_aldq hx hb hG hP 1 3 rfl rfl (k := i) (x := q 0) (by omega) (by decide) hg dX3_answer_25 ?_
  refine gc_Si (va_runV (As := []) (rest := []) ⟨hx, hb, hml, hown, hts⟩ (c_X1_hasMessage l D cy q J dc M.length (by omega)) (cwV 0 hts gX3_answer_X1_hasMessage rfl rfl rfl (by decide +kernel) ⟨Nat.le_of_ble_eq_true rfl, Nat.le_of_ble_eq_true rfl⟩) (gpVR (ci := 1) (q0 := 0) hG (hP.sub [2] rfl) rfl rfl) rfl rfl hl.1 rfl (lv_room (Nat.le_of_ble_eq_true rfl)) dX3_answer_26 ⟨Nat.zero_le _, Nat.zero_le _⟩) ?_
  refine gc_Sv (va_runS (As := [.int (gb (0 < M.length))]) (rest := []) ⟨hx, hb, hml, hown, hts⟩ (c_X3_requireState l D cy (gb (0 < M.length)) (gb_ne0.mpr (h0))) (va_cwS 1 hts gX3_answer_X3_requireState rfl rfl rfl (by decide +kernel) ⟨Nat.le_of_ble_eq_true rfl, Nat.le_of_ble_eq_true rfl⟩) (gpSR hG (hP.sub [] rfl)) rfl rfl hl.1 rfl (lv_room (Nat.le_of_ble_eq_true rfl)) dX3_answer_29 ⟨Nat.zero_le _, Nat.zero_le _⟩) ?_
  refine lv_aload_n hx hb dX3_answer_32 rfl (lv_at hl 0 rfl) ?_
  refine va_get (D := D) (ci := 3) (v := .ref (a 5)) (C := RX3) (T := TX3) (N := 5) hx hb hts iX3_answer_X3 hown hG.1 hP 0 rfl rfl 2 (by decide) (hts (.fieldLink RX3 21 "DirtyTiles" "clients" "[LDirtyTiles$Client;") (by decide +kernel)) (fun _ h9 => h9) rfl dX3_answer_33 ?_
  refine lv_iload_n hx hb dX3_answer_36 rfl (lv_at hl 1 rfl) ?_
  refine g_aldq hx hb hG hP 1 3 rfl rfl (k := i) (x := q 0) (by omega) (by decide) hg dX3_answer_37 ?_
  refine gc_Wi (wn := fun u => [(a 0, eTop (a 1) (a 3) (a 5) (a 6) uw), (a 5, eQ cy 2 g), (q 0, eCli (gb (J)) (q 1) (q 3) (q 5) (q 7) dc (q 8) (q 9) (nI 0)), (q 1, eScr (q 2)), (q 2, eJ cy 12 u.1), (q 3, eCch (q 4) (nI u.2.1.length)), (q 4, eJ cy 6 u.2.2), (q 8, eI cy 12 ft), (q 9, eJ cy 12 fm)]) (wr := [(a 0, eTop (a 1) (a 3) (a 5) (a 6) uw), (a 5, eQ cy 2 g)]) (va_runV (As := []) (rest := []) ⟨hx, hb, hml, hown, hts⟩ (c_X1_takeMessage l D cy H.size q J dc fs L f M ft fm hf hL hm9 hn ho) (cwV 0 hts gX3_answer_X1_takeMessage rfl rfl rfl (by decide +kernel) ⟨Nat.le_of_ble_eq_true rfl, Nat.le_of_ble_eq_true rfl⟩) (gpVI (ci := 1) (q0 := 0) hG (hP.sub [2, 3, 4, 5, 6, 7, 8] rfl) (hD.sub [2, 3, 4, 5, 6, 7, 8] (by decide) rfl) rfl rfl) rfl rfl hl.1 rfl (lv_room (Nat.le_of_ble_eq_true rfl)) dX3_answer_38 ⟨Nat.zero_le _, Nat.zero_le _⟩) hP hD hS hA [2, 3, 4, 5, 6, 7, 8] [0, 1] [0, 1, 2, 3, 4, 5, 6, 7, 8] rfl rfl (by decide) (by decide) (fun _ => rfl) (by decide) (fun r_38 u9 H locs hw_38 hP hD hS => ?_)
  obtain ⟨fs2_38, L2_38, f2_38⟩ := u9
  have hP : va_P D vwCl [(a 0, eTop (a 1) (a 3) (a 5) (a 6) uw), (a 5, eQ cy 2 g), (q 0, eCli (gb (J)) (q 1) (q 3) (q 5) (q 7) dc (q 8) (q 9) (nI 0)), (q 1, eScr (q 2)), (q 2, eJ cy 12 fs2_38), (q 3, eCch (q 4) (nI L2_38.length)), (q 4, eJ cy 6 f2_38), (q 8, eI cy 12 ft), (q 9, eJ cy 12 fm)] H := hP
  have hD : va_D AA [(a 0, eTop (a 1) (a 3) (a 5) (a 6) uw), (a 5, eQ cy 2 g), (q 0, eCli (gb (J)) (q 1) (q 3) (q 5) (q 7) dc (q 8) (q 9) (nI 0)), (q 1, eScr (q 2)), (q 2, eJ cy 12 fs2_38), (q 3, eCch (q 4) (nI L2_38.length)), (q 4, eJ cy 6 f2_38), (q 8, eI cy 12 ft), (q 9, eJ cy 12 fm)] := hD
  obtain ⟨hr_38, hw_38⟩ := hw_38
  refine g_ti (y := nI M.length) hr_38 ?_
  obtain ⟨ef_38, hw_38⟩ := hw_38
  subst ef_38
  obtain ⟨ef_38, hw_38⟩ := hw_38
  subst ef_38
  have hP : va_P D vwCl [(a 0, eTop (a 1) (a 3) (a 5) (a 6) uw), (a 5, eQ cy 2 g), (q 0, eCli (gb (J)) (q 1) (q 3) (q 5) (q 7) dc (q 8) (q 9) (nI 0)), (q 1, eScr (q 2)), (q 2, eJ cy 12 ((scrF M fs))), (q 3, eCch (q 4) (nI (cchF M L).length)), (q 4, eJ cy 6 f2_38), (q 8, eI cy 12 ft), (q 9, eJ cy 12 fm)] H := hP
  have hD : va_D AA [(a 0, eTop (a 1) (a 3) (a 5) (a 6) uw), (a 5, eQ cy 2 g), (q 0, eCli (gb (J)) (q 1) (q 3) (q 5) (q 7) dc (q 8) (q 9) (nI 0)), (q 1, eScr (q 2)), (q 2, eJ cy 12 ((scrF M fs))), (q 3, eCch (q 4) (nI (cchF M L).length)), (q 4, eJ cy 6 f2_38), (q 8, eI cy 12 ft), (q 9, eJ cy 12 fm)] := hD
  have hw_38 : hC (cchF M L) f2_38 ∧ (cchF M L).length ≤ 6 := hw_38
  exact hret _ _ _ _ _ ⟨scrF M fs, cchF M L, f2_38⟩ dX3_answer_41 (⟨rfl, rfl, rfl, hw_38⟩) (hP.sub [0, 1, 2, 3, 4, 5, 6, 7, 8] rfl) (hD.sub [0, 1, 2, 3, 4, 5, 6, 7, 8] (by decide) rfl) hS
