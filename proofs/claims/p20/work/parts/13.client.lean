/-! the class: clients -/
/-! a client: its row of dirty tiles, its message -/
def hN (L : List Nat) (f : Nat → Int32) : Prop := ∀ i, i < L.length → f i = nI (L.getD i 0)
def okD (L : List Nat) : Prop := L.Nodup ∧ ∀ d, d ∈ L → d < 12
theorem getD_mem {L : List Nat} {i : Nat} (h : i < L.length) : L.getD i 0 ∈ L := by
  rw [List.getD_eq_getElem?_getD, List.getElem?_eq_getElem h]
  exact List.getElem_mem h
theorem okD_get {L : List Nat} (h : okD L) {i : Nat} (hi : i < L.length) : L.getD i 0 < 12 := h.2 _ (getD_mem hi)
theorem okD_len {L : List Nat} (h : okD L) : L.length ≤ 12 := by
  refine fb_holes 12 L.length (fun i => L.getD i 0) (fun i hi => okD_get h hi) (fun i j hij hj e => ?_)
  have hi : i < L.length := by omega
  have e2 : L[i] = L[j] := by
    have h1 : L.getD i 0 = L[i] := by rw [List.getD_eq_getElem?_getD, List.getElem?_eq_getElem hi]; rfl
    have h2 : L.getD j 0 = L[j] := by rw [List.getD_eq_getElem?_getD, List.getElem?_eq_getElem hj]; rfl
    rw [← h1, ← h2]; exact e
  exact List.pairwise_iff_getElem.mp h.1 i j hi hj hij e2
/-- a tile becomes dirty: at the end of the row, if it isn't there -/
def soil (L : List Nat) (t : Nat) : List Nat := if t ∈ L then L else L ++ [t]
theorem soil_ok {L : List Nat} {t : Nat} (h : okD L) (ht : t < 12) : okD (soil L t) := by
  unfold soil
  split
  · exact h
  · rename_i hn
    refine ⟨?_, fun d hd => ?_⟩
    · rw [List.nodup_append]
      refine ⟨h.1, by simp, fun a ha b hb e => ?_⟩
      rw [List.mem_singleton] at hb
      exact hn (by rw [← hb, ← e]; exact ha)
    · rcases List.mem_append.mp hd with q | q
      · exact h.2 d q
      · rw [List.mem_singleton] at q; omega
theorem mem_getD {L : List Nat} {t : Nat} (h : t ∈ L) : ∃ i, i < L.length ∧ L.getD i 0 = t := by
  obtain ⟨i, hi, e⟩ := List.getElem_of_mem h
  exact ⟨i, hi, by rw [List.getD_eq_getElem?_getD, List.getElem?_eq_getElem hi]; exact e⟩
theorem soil_in {L : List Nat} {t i : Nat} (hi : i < L.length) (h : L.getD i 0 = t) : soil L t = L := by
  unfold soil
  exact if_pos (by rw [← h]; exact getD_mem hi)
theorem soil_out {L : List Nat} {t : Nat} (h : ∀ j, j < L.length → L.getD j 0 ≠ t) : soil L t = L ++ [t] := by
  unfold soil
  refine if_neg (fun hm => ?_)
  obtain ⟨i, hi, e⟩ := mem_getD hm
  exact h i hi e
theorem hN_app {L : List Nat} {f : Nat → Int32} {t : Nat} (h : hN L f) : hN (L ++ [t]) (upd f L.length (nI t)) := by
  intro i hi
  rw [List.length_append, List.length_singleton] at hi
  by_cases e : i = L.length
  · rw [e, pk_us, List.getD_eq_getElem?_getD, List.getElem?_append_right (Nat.le_refl _), Nat.sub_self]; rfl
  · rw [pk_un e, h i (by omega), List.getD_eq_getElem?_getD, List.getD_eq_getElem?_getD, List.getElem?_append_left (by omega)]
theorem okD_room {L : List Nat} {t : Nat} (h : okD L) (ht : t < 12) (hn : soil L t = L ++ [t]) : L.length < 12 := by
  have := okD_len (soil_ok h ht)
  rw [hn, List.length_append, List.length_singleton] at this
  omega
def mT (M : List (Nat × Int64)) (i : Nat) : Nat := (M.getD i (0, 0)).1
def mX (M : List (Nat × Int64)) (i : Nat) : Int64 := (M.getD i (0, 0)).2
def hM (M : List (Nat × Int64)) (ft : Nat → Int32) (fm : Nat → Int64) : Prop := ∀ i, i < M.length → ft i = nI (mT M i) ∧ fm i = mX M i
def okM (M : List (Nat × Int64)) : Prop := ∀ i, i < M.length → mT M i < 12
theorem mT_app {M : List (Nat × Int64)} {t : Nat} {x : Int64} {i : Nat} : i < M.length → mT (M ++ [(t, x)]) i = mT M i ∧ mX (M ++ [(t, x)]) i = mX M i := by
  intro hi
  unfold mT mX
  rw [List.getD_eq_getElem?_getD, List.getD_eq_getElem?_getD, List.getElem?_append_left hi]
  exact ⟨rfl, rfl⟩
theorem mT_last {M : List (Nat × Int64)} {t : Nat} {x : Int64} : mT (M ++ [(t, x)]) M.length = t ∧ mX (M ++ [(t, x)]) M.length = x := by
  unfold mT mX
  rw [List.getD_eq_getElem?_getD, List.getElem?_append_right (Nat.le_refl _), Nat.sub_self]
  exact ⟨rfl, rfl⟩
theorem hM_app {M : List (Nat × Int64)} {ft : Nat → Int32} {fm : Nat → Int64} {t : Nat} {x : Int64} (h : hM M ft fm) : hM (M ++ [(t, x)]) (upd ft M.length (nI t)) (vp_updL fm M.length x) := by
  intro i hi
  rw [List.length_append, List.length_singleton] at hi
  by_cases e : i = M.length
  · subst e
    rw [pk_us, pk_uLs, mT_last.1, mT_last.2]
    exact ⟨rfl, rfl⟩
  · rw [pk_un e, pk_uLn e, (mT_app (by omega)).1, (mT_app (by omega)).2]
    exact h i (by omega)
theorem okM_app {M : List (Nat × Int64)} {t : Nat} {x : Int64} (h : okM M) (ht : t < 12) : okM (M ++ [(t, x)]) := by
  intro i hi
  rw [List.length_append, List.length_singleton] at hi
  by_cases e : i = M.length
  · rw [e, mT_last.1]; exact ht
  · rw [(mT_app (by omega)).1]; exact h i (by omega)
/-- the tiles of a message come to a screen, and to a cache -/
def scrF (M : List (Nat × Int64)) (f : Nat → Int64) : Nat → Int64 := M.foldl (fun g m => vp_updL g m.1 m.2) f
def cchF (M : List (Nat × Int64)) (O : List Int64) : List Int64 := M.foldl (fun o m => brg o m.2) O
theorem take_get {M : List (Nat × Int64)} {i : Nat} (hi : i < M.length) : M.take (i + 1) = M.take i ++ [(mT M i, mX M i)] := by
  rw [List.take_add_one, List.getElem?_eq_getElem hi]
  unfold mT mX
  rw [List.getD_eq_getElem?_getD, List.getElem?_eq_getElem hi]
  rfl
theorem scrF_step {M : List (Nat × Int64)} {i : Nat} (hi : i < M.length) {f g : Nat → Int64} (h : g = scrF (M.take i) f) : vp_updL g (mT M i) (mX M i) = scrF (M.take (i + 1)) f := by
  unfold scrF
  rw [take_get hi, List.foldl_append, h]; rfl
theorem cchF_step {M : List (Nat × Int64)} {i : Nat} (hi : i < M.length) {O P : List Int64} (h : P = cchF (M.take i) O) : brg P (mX M i) = cchF (M.take (i + 1)) O := by
  unfold cchF
  rw [take_get hi, List.foldl_append, h]; rfl
theorem iX1_hasJoined_X1 : ∀ w ∈ wsX10, w ∈ wsX1_hasJoined := by decide +kernel
set_option maxHeartbeats 4000000 in
set_option maxRecDepth 100000 in
theorem c_X1_hasJoined (l : Launch) (D : va_G) (cy : Nat → ClassId) (q : Nat → Nat) (J : Prop) (dc k : Int32)  : Met l yX1_hasJoined wsX1_hasJoined ({ frames := 0, cells := 0, slots := 0, locals := 0 } : Room) (va_Pc [.ref (q 0)] (gR D (gT cy) [(q 0, eCli (gb (J)) (q 1) (q 3) (q 5) (q 7) dc (q 8) (q 9) k)])) (vp_Si (fun r9 => r9 = gb (J))) 0 0 (fun _ => False) := by
  refine gM_i (cc := cX1_hasJoined) (maxL := 1) (ty := .boolean) (by decide) rfl (Nat.le_of_ble_eq_true rfl) (fun v hv => by rw [hv]; first | rfl | exact gb_nar _) ?_
  intro pp ee ss mm bw mt cd QQ ls hfx hP hG hret hl
  obtain ⟨hx, hb, hml, hown, hts, hlocks⟩ := hfx
  have hown : ss.vm.findClass RX1 = some mm.cls := hown
  have hl : lv_has ls 1 [(0, .ref (q 0))] := hl
  refine lv_aload_n hx hb dX1_hasJoined_0 rfl (lv_at hl 0 rfl) ?_
  refine va_get (D := D) (ci := 1) (v := .int (gb (J))) (C := RX1) (T := TX1) (N := 9) hx hb hts iX1_hasJoined_X1 hown hG.1 hP 0 rfl rfl 0 (by decide) (hts (.fieldLink RX1 9 "DirtyTiles$Client" "joined" "Z") (by decide +kernel)) (fun _ h9 => h9) rfl dX1_hasJoined_1 ?_
  exact hret _ _ _ dX1_hasJoined_4 rfl
theorem iX1_ownScreen_X1 : ∀ w ∈ wsX10, w ∈ wsX1_ownScreen := by decide +kernel
set_option maxHeartbeats 4000000 in
set_option maxRecDepth 100000 in
theorem c_X1_ownScreen (l : Launch) (D : va_G) (cy : Nat → ClassId) (q : Nat → Nat) (J : Prop) (dc k : Int32)  : Met l yX1_ownScreen wsX1_ownScreen ({ frames := 0, cells := 0, slots := 0, locals := 0 } : Room) (va_Pc [.ref (q 0)] (gR D (gT cy) [(q 0, eCli (gb (J)) (q 1) (q 3) (q 5) (q 7) dc (q 8) (q 9) k)])) (va_Sr (fun k9 => k9 = q 1) Value.ref) 0 0 (fun _ => False) := by
  refine gM_a (cc := cX1_ownScreen) (maxL := 1) (by decide) rfl (Nat.le_of_ble_eq_true rfl) ?_
  intro pp ee ss mm bw mt cd QQ ls hfx hP hG hret hl
  obtain ⟨hx, hb, hml, hown, hts, hlocks⟩ := hfx
  have hown : ss.vm.findClass RX1 = some mm.cls := hown
  have hl : lv_has ls 1 [(0, .ref (q 0))] := hl
  refine lv_aload_n hx hb dX1_ownScreen_0 rfl (lv_at hl 0 rfl) ?_
  refine va_get (D := D) (ci := 1) (v := .ref (q 1)) (C := RX1) (T := TX1) (N := 9) hx hb hts iX1_ownScreen_X1 hown hG.1 hP 0 rfl rfl 1 (by decide) (hts (.fieldLink RX1 18 "DirtyTiles$Client" "ownScreen" "LDirtyTiles$Screen;") (by decide +kernel)) (fun _ h9 => h9) rfl dX1_ownScreen_1 ?_
  exact hret _ _ dX1_ownScreen_4
theorem iX1_ownCache_X1 : ∀ w ∈ wsX10, w ∈ wsX1_ownCache := by decide +kernel
set_option maxHeartbeats 4000000 in
set_option maxRecDepth 100000 in
theorem c_X1_ownCache (l : Launch) (D : va_G) (cy : Nat → ClassId) (q : Nat → Nat) (J : Prop) (dc k : Int32)  : Met l yX1_ownCache wsX1_ownCache ({ frames := 0, cells := 0, slots := 0, locals := 0 } : Room) (va_Pc [.ref (q 0)] (gR D (gT cy) [(q 0, eCli (gb (J)) (q 1) (q 3) (q 5) (q 7) dc (q 8) (q 9) k)])) (va_Sr (fun k9 => k9 = q 3) Value.ref) 0 0 (fun _ => False) := by
  refine gM_a (cc := cX1_ownCache) (maxL := 1) (by decide) rfl (Nat.le_of_ble_eq_true rfl) ?_
  intro pp ee ss mm bw mt cd QQ ls hfx hP hG hret hl
  obtain ⟨hx, hb, hml, hown, hts, hlocks⟩ := hfx
  have hown : ss.vm.findClass RX1 = some mm.cls := hown
  have hl : lv_has ls 1 [(0, .ref (q 0))] := hl
  refine lv_aload_n hx hb dX1_ownCache_0 rfl (lv_at hl 0 rfl) ?_
  refine va_get (D := D) (ci := 1) (v := .ref (q 3)) (C := RX1) (T := TX1) (N := 9) hx hb hts iX1_ownCache_X1 hown hG.1 hP 0 rfl rfl 2 (by decide) (hts (.fieldLink RX1 25 "DirtyTiles$Client" "ownCache" "LDirtyTiles$Cache;") (by decide +kernel)) (fun _ h9 => h9) rfl dX1_ownCache_1 ?_
  exact hret _ _ dX1_ownCache_4
theorem iX1_serverCache_X1 : ∀ w ∈ wsX10, w ∈ wsX1_serverCache := by decide +kernel
set_option maxHeartbeats 4000000 in
set_option maxRecDepth 100000 in
theorem c_X1_serverCache (l : Launch) (D : va_G) (cy : Nat → ClassId) (q : Nat → Nat) (J : Prop) (dc k : Int32)  : Met l yX1_serverCache wsX1_serverCache ({ frames := 0, cells := 0, slots := 0, locals := 0 } : Room) (va_Pc [.ref (q 0)] (gR D (gT cy) [(q 0, eCli (gb (J)) (q 1) (q 3) (q 5) (q 7) dc (q 8) (q 9) k)])) (va_Sr (fun k9 => k9 = q 5) Value.ref) 0 0 (fun _ => False) := by
  refine gM_a (cc := cX1_serverCache) (maxL := 1) (by decide) rfl (Nat.le_of_ble_eq_true rfl) ?_
  intro pp ee ss mm bw mt cd QQ ls hfx hP hG hret hl
  obtain ⟨hx, hb, hml, hown, hts, hlocks⟩ := hfx
  have hown : ss.vm.findClass RX1 = some mm.cls := hown
  have hl : lv_has ls 1 [(0, .ref (q 0))] := hl
  refine lv_aload_n hx hb dX1_serverCache_0 rfl (lv_at hl 0 rfl) ?_
  refine va_get (D := D) (ci := 1) (v := .ref (q 5)) (C := RX1) (T := TX1) (N := 9) hx hb hts iX1_serverCache_X1 hown hG.1 hP 0 rfl rfl 3 (by decide) (hts (.fieldLink RX1 29 "DirtyTiles$Client" "serverCache" "LDirtyTiles$Cache;") (by decide +kernel)) (fun _ h9 => h9) rfl dX1_serverCache_1 ?_
  exact hret _ _ dX1_serverCache_4
theorem iX1_dirtyCount_X1 : ∀ w ∈ wsX10, w ∈ wsX1_dirtyCount := by decide +kernel
set_option maxHeartbeats 4000000 in
set_option maxRecDepth 100000 in
theorem c_X1_dirtyCount (l : Launch) (D : va_G) (cy : Nat → ClassId) (q : Nat → Nat) (J : Prop) (dc k : Int32)  : Met l yX1_dirtyCount wsX1_dirtyCount ({ frames := 0, cells := 0, slots := 0, locals := 0 } : Room) (va_Pc [.ref (q 0)] (gR D (gT cy) [(q 0, eCli (gb (J)) (q 1) (q 3) (q 5) (q 7) dc (q 8) (q 9) k)])) (vp_Si (fun r9 => r9 = dc)) 0 0 (fun _ => False) := by
  refine gM_i (cc := cX1_dirtyCount) (maxL := 1) (ty := .int) (by decide) rfl (Nat.le_of_ble_eq_true rfl) (fun v hv => by rw [hv]; first | rfl | exact gb_nar _) ?_
  intro pp ee ss mm bw mt cd QQ ls hfx hP hG hret hl
  obtain ⟨hx, hb, hml, hown, hts, hlocks⟩ := hfx
  have hown : ss.vm.findClass RX1 = some mm.cls := hown
  have hl : lv_has ls 1 [(0, .ref (q 0))] := hl
  refine lv_aload_n hx hb dX1_dirtyCount_0 rfl (lv_at hl 0 rfl) ?_
  refine va_get (D := D) (ci := 1) (v := .int dc) (C := RX1) (T := TX1) (N := 9) hx hb hts iX1_dirtyCount_X1 hown hG.1 hP 0 rfl rfl 5 (by decide) (hts (.fieldLink RX1 36 "DirtyTiles$Client" "dirtyCount" "I") (by decide +kernel)) (fun _ h9 => h9) rfl dX1_dirtyCount_1 ?_
  exact hret _ _ _ dX1_dirtyCount_4 rfl
theorem iX1_messageCount_X1 : ∀ w ∈ wsX10, w ∈ wsX1_messageCount := by decide +kernel
set_option maxHeartbeats 4000000 in
set_option maxRecDepth 100000 in
theorem c_X1_messageCount (l : Launch) (D : va_G) (cy : Nat → ClassId) (q : Nat → Nat) (J : Prop) (dc k : Int32)  : Met l yX1_messageCount wsX1_messageCount ({ frames := 0, cells := 0, slots := 0, locals := 0 } : Room) (va_Pc [.ref (q 0)] (gR D (gT cy) [(q 0, eCli (gb (J)) (q 1) (q 3) (q 5) (q 7) dc (q 8) (q 9) k)])) (vp_Si (fun r9 => r9 = k)) 0 0 (fun _ => False) := by
  refine gM_i (cc := cX1_messageCount) (maxL := 1) (ty := .int) (by decide) rfl (Nat.le_of_ble_eq_true rfl) (fun v hv => by rw [hv]; first | rfl | exact gb_nar _) ?_
  intro pp ee ss mm bw mt cd QQ ls hfx hP hG hret hl
  obtain ⟨hx, hb, hml, hown, hts, hlocks⟩ := hfx
  have hown : ss.vm.findClass RX1 = some mm.cls := hown
  have hl : lv_has ls 1 [(0, .ref (q 0))] := hl
  refine lv_aload_n hx hb dX1_messageCount_0 rfl (lv_at hl 0 rfl) ?_
  refine va_get (D := D) (ci := 1) (v := .int k) (C := RX1) (T := TX1) (N := 9) hx hb hts iX1_messageCount_X1 hown hG.1 hP 0 rfl rfl 8 (by decide) (hts (.fieldLink RX1 47 "DirtyTiles$Client" "messageCount" "I") (by decide +kernel)) (fun _ h9 => h9) rfl dX1_messageCount_1 ?_
  exact hret _ _ _ dX1_messageCount_4 rfl
theorem iX1_hasMessage_X1 : ∀ w ∈ wsX10, w ∈ wsX1_hasMessage := by decide +kernel
set_option maxHeartbeats 4000000 in
set_option maxRecDepth 100000 in
theorem c_X1_hasMessage (l : Launch) (D : va_G) (cy : Nat → ClassId) (q : Nat → Nat) (J : Prop) (dc : Int32) (n : Nat) (hn : n ≤ 12) : Met l yX1_hasMessage wsX1_hasMessage ({ frames := 0, cells := 0, slots := 0, locals := 0 } : Room) (va_Pc [.ref (q 0)] (gR D (gT cy) [(q 0, eCli (gb (J)) (q 1) (q 3) (q 5) (q 7) dc (q 8) (q 9) (nI n))])) (vp_Si (fun r9 => r9 = gb (0 < n))) 0 0 (fun _ => False) := by
  refine gM_i (cc := cX1_hasMessage) (maxL := 1) (ty := .boolean) (by decide) rfl (Nat.le_of_ble_eq_true rfl) (fun v hv => by rw [hv]; first | rfl | exact gb_nar _) ?_
  intro pp ee ss mm bw mt cd QQ ls hfx hP hG hret hl
  obtain ⟨hx, hb, hml, hown, hts, hlocks⟩ := hfx
  have hown : ss.vm.findClass RX1 = some mm.cls := hown
  have hl : lv_has ls 1 [(0, .ref (q 0))] := hl
  refine lv_aload_n hx hb dX1_hasMessage_0 rfl (lv_at hl 0 rfl) ?_
  refine va_get (D := D) (ci := 1) (v := .int (nI n)) (C := RX1) (T := TX1) (N := 9) hx hb hts iX1_hasMessage_X1 hown hG.1 hP 0 rfl rfl 8 (by decide) (hts (.fieldLink RX1 47 "DirtyTiles$Client" "messageCount" "I") (by decide +kernel)) (fun _ h9 => h9) rfl dX1_hasMessage_1 ?_
  refine lv_if_le (tgt := 11) hx hb dX1_hasMessage_4 (by decide) (fun c_4 => ?_) (fun c_4 => ?_)
  · skip
    have c_4 : n ≤ 0 := (nI_leI (a := n) (b := 0) (by omega) (by omega)).mp c_4
    refine lv_iconst (v := nI 0) hx hb dX1_hasMessage_11 (by decide) ?_
    exact hret _ _ _ dX1_hasMessage_12 (by first | exact (gb_t (by omega)).symm | exact (gb_f (by omega)).symm)
  · skip
    have c_4 : ¬ n ≤ 0 := fun z => c_4 ((nI_leI (a := n) (b := 0) (by omega) (by omega)).mpr z)
    refine lv_iconst (v := nI 1) hx hb dX1_hasMessage_7 (by decide) ?_
    refine lv_goto (tgt := 12) hx hb dX1_hasMessage_8 (by decide) ?_
    exact hret _ _ _ dX1_hasMessage_12 (by first | exact (gb_t (by omega)).symm | exact (gb_f (by omega)).symm)
theorem iX1_dirtyTileAt_X1 : ∀ w ∈ wsX10, w ∈ wsX1_dirtyTileAt := by decide +kernel
set_option maxHeartbeats 4000000 in
set_option maxRecDepth 100000 in
theorem c_X1_dirtyTileAt (l : Launch) (D : va_G) (cy : Nat → ClassId) (q : Nat → Nat) (J : Prop) (dc k : Int32) (f : Nat → Int32) (i : Nat) (hi : i < 12) : Met l yX1_dirtyTileAt wsX1_dirtyTileAt ({ frames := 0, cells := 0, slots := 0, locals := 0 } : Room) (va_Pc [.ref (q 0), .int (nI i)] (gR D (gT cy) [(q 0, eCli (gb (J)) (q 1) (q 3) (q 5) (q 7) dc (q 8) (q 9) k), (q 7, eI cy 12 f)])) (vp_Si (fun r9 => r9 = f i)) 0 0 (fun _ => False) := by
  refine gM_i (cc := cX1_dirtyTileAt) (maxL := 2) (ty := .int) (by decide) rfl (Nat.le_of_ble_eq_true rfl) (fun v hv => by rw [hv]; first | rfl | exact gb_nar _) ?_
  intro pp ee ss mm bw mt cd QQ ls hfx hP hG hret hl
  obtain ⟨hx, hb, hml, hown, hts, hlocks⟩ := hfx
  have hown : ss.vm.findClass RX1 = some mm.cls := hown
  have hl : lv_has ls 2 [(0, .ref (q 0)), (1, .int (nI i))] := hl
  refine lv_aload_n hx hb dX1_dirtyTileAt_0 rfl (lv_at hl 0 rfl) ?_
  refine va_get (D := D) (ci := 1) (v := .ref (q 7)) (C := RX1) (T := TX1) (N := 9) hx hb hts iX1_dirtyTileAt_X1 hown hG.1 hP 0 rfl rfl 4 (by decide) (hts (.fieldLink RX1 32 "DirtyTiles$Client" "dirtyTiles" "[I") (by decide +kernel)) (fun _ h9 => h9) rfl dX1_dirtyTileAt_1 ?_
  refine lv_iload_n hx hb dX1_dirtyTileAt_4 rfl (lv_at hl 1 rfl) ?_
  refine g_iald hx hb hG hP 1 0 rfl rfl (k := i) (by omega) (by decide) dX1_dirtyTileAt_5 ?_
  exact hret _ _ _ dX1_dirtyTileAt_6 rfl
theorem iX1_makeDirty_X1 : ∀ w ∈ wsX10, w ∈ wsX1_makeDirty := by decide +kernel
set_option maxHeartbeats 4000000 in
set_option maxRecDepth 100000 in
theorem c_X1_makeDirty (l : Launch) (D : va_G) (cy : Nat → ClassId) (sz : Nat) (q : Nat → Nat) (J : Prop) (k : Int32) (L : List Nat) (f : Nat → Int32) (t : Nat) (hL : hN L f) (ho : okD L) (ht : t < 12) : Met l yX1_makeDirty wsX1_makeDirty ({ frames := 0, cells := 0, slots := 0, locals := 0 } : Room) (va_Pc [.ref (q 0), .int (nI t)] (gI D (gT cy) [(q 0, eCli (gb (J)) (q 1) (q 3) (q 5) (q 7) (nI L.length) (q 8) (q 9) k), (q 7, eI cy 12 f)] sz)) (va_Qv (fun u : (List Nat) × (Nat → Int32) => u.1 = soil L t ∧ (hN (soil L t) u.2)) (gO D (fun u : (List Nat) × (Nat → Int32) => [(q 0, eCli (gb (J)) (q 1) (q 3) (q 5) (q 7) (nI u.1.length) (q 8) (q 9) k), (q 7, eI cy 12 u.2)]) (va_A [(q 0, eCli (gb (J)) (q 1) (q 3) (q 5) (q 7) (nI L.length) (q 8) (q 9) k), (q 7, eI cy 12 f)] sz)) (va_A [(q 0, eCli (gb (J)) (q 1) (q 3) (q 5) (q 7) (nI L.length) (q 8) (q 9) k), (q 7, eI cy 12 f)] sz)) 0 0 (va_A [(q 0, eCli (gb (J)) (q 1) (q 3) (q 5) (q 7) (nI L.length) (q 8) (q 9) k), (q 7, eI cy 12 f)] sz) := by
  refine gW_v (cc := cX1_makeDirty) (maxL := 3) (by decide) rfl (Nat.le_of_ble_eq_true rfl) ?_
  intro pp ee ss mm bw mt cd QQ AA ls hfx hP hG hD hA hret hl
  have hS : va_S AA ss.heap ss.heap [] := va_S.rf
  obtain ⟨H, eH⟩ : ∃ H, H = ss.heap := ⟨_, rfl⟩
  obtain ⟨locs, eL⟩ : ∃ L : List Loc, L = [] := ⟨_, rfl⟩
  have hP : va_P D vwCl [(q 0, eCli (gb (J)) (q 1) (q 3) (q 5) (q 7) (nI L.length) (q 8) (q 9) k), (q 7, eI cy 12 f)] H := by rw [eH]; exact hP
  have hS : va_S AA ss.heap H locs := by rw [eH, eL]; exact hS
  have goal : ∀ X Y, X = H → Y = locs → W pp l ee ({ frames := 0, cells := 0, slots := 0, locals := 0 } : Room) ss mm ([.ref (q 0), .int (nI t)] : List Value).toArray bw mt cd X Y 0 0 QQ (F0 mm 0 ls []) → W pp l ee ({ frames := 0, cells := 0, slots := 0, locals := 0 } : Room) ss mm ([.ref (q 0), .int (nI t)] : List Value).toArray bw mt cd ss.heap [] 0 0 QQ (F0 mm 0 ls []) := fun X Y hX hY h => by rw [hX, hY, eH, eL] at h; exact h
  refine goal H locs rfl rfl ?_
  clear goal eH eL
  obtain ⟨hx, hb, hml, hown, hts, hlocks⟩ := hfx
  have hown : ss.vm.findClass RX1 = some mm.cls := hown
  have hl : lv_has ls 3 [(0, .ref (q 0)), (1, .int (nI t))] := hl
  have z1 := okD_len ho
  refine lv_iconst (v := nI 0) hx hb dX1_makeDirty_0 (by decide) ?_
  refine lv_istore_n (lv' := [(2, .int (nI 0)), (0, .ref (q 0)), (1, .int (nI t))]) hx hb dX1_makeDirty_1 rfl hl (by decide) rfl (fun ls hl => ?_)
  have loop_2 : ∀ (n9 : Nat) (i : Nat), L.length - i < n9 → (i ≤ L.length) → (∀ j, j < i → L.getD j 0 ≠ t) → ∀ (H : Heap) (locs : List Loc) (ls : Array Slot), va_P D vwCl [(q 0, eCli (gb (J)) (q 1) (q 3) (q 5) (q 7) (nI L.length) (q 8) (q 9) k), (q 7, eI cy 12 f)] H → va_D AA [(q 0, eCli (gb (J)) (q 1) (q 3) (q 5) (q 7) (nI L.length) (q 8) (q 9) k), (q 7, eI cy 12 f)] → va_S AA ss.heap H locs → lv_has ls 3 [(0, .ref (q 0)), (1, .int (nI t)), (2, .int (nI i))] → W pp l ee ({ frames := 0, cells := 0, slots := 0, locals := 0 } : Room) ss mm ([.ref (q 0), .int (nI t)] : List Value).toArray bw mt cd H locs 0 0 QQ (F0 mm 2 ls []) := by
    intro n9
    induction n9 with
    | zero => intro i h9; exact absurd h9 (Nat.not_lt_zero _)
    | succ n9 ih_2 =>
      intro i hm_2 hi hno H locs ls hP hD hS hl
      refine lv_iload_n hx hb dX1_makeDirty_2 rfl (lv_at hl 2 rfl) ?_
      refine lv_aload_n hx hb dX1_makeDirty_3 rfl (lv_at hl 0 rfl) ?_
      refine va_get (D := D) (ci := 1) (v := .int (nI L.length)) (C := RX1) (T := TX1) (N := 9) hx hb hts iX1_makeDirty_X1 hown hG.1 hP 0 rfl rfl 5 (by decide) (hts (.fieldLink RX1 36 "DirtyTiles$Client" "dirtyCount" "I") (by decide +kernel)) (fun _ h9 => h9) rfl dX1_makeDirty_4 ?_
      refine lv_icmp_ge (tgt := 27) hx hb dX1_makeDirty_7 (by decide) (fun c_7 => ?_) (fun c_7 => ?_)
      · skip
        have c_7 : L.length ≤ i := (nI_leI (a := L.length) (b := i) (by omega) (by omega)).mp c_7
        have e9 : soil L t = L ++ [t] := soil_out (fun j hj => hno j (by omega))
        have z2 := okD_room ho ht e9
        refine lv_aload_n hx hb dX1_makeDirty_27 rfl (lv_at hl 0 rfl) ?_
        refine va_get (D := D) (ci := 1) (v := .int (nI L.length)) (C := RX1) (T := TX1) (N := 9) hx hb hts iX1_makeDirty_X1 hown hG.1 hP 0 rfl rfl 5 (by decide) (hts (.fieldLink RX1 36 "DirtyTiles$Client" "dirtyCount" "I") (by decide +kernel)) (fun _ h9 => h9) rfl dX1_makeDirty_28 ?_
        refine lv_bipush (v := nI 12) hx hb dX1_makeDirty_31 (by decide) ?_
        refine lv_icmp_ge (tgt := 56) hx hb dX1_makeDirty_33 (by decide) (fun c_33 => ?_) (fun c_33 => ?_)
        · skip
          have c_33 : 12 ≤ L.length := (nI_leI (a := 12) (b := L.length) (by omega) (by omega)).mp c_33
          exact absurd c_33 (by omega)
        · skip
          have c_33 : ¬ 12 ≤ L.length := fun z => c_33 ((nI_leI (a := 12) (b := L.length) (by omega) (by omega)).mpr z)
          refine lv_aload_n hx hb dX1_makeDirty_36 rfl (lv_at hl 0 rfl) ?_
          refine va_get (D := D) (ci := 1) (v := .ref (q 7)) (C := RX1) (T := TX1) (N := 9) hx hb hts iX1_makeDirty_X1 hown hG.1 hP 0 rfl rfl 4 (by decide) (hts (.fieldLink RX1 32 "DirtyTiles$Client" "dirtyTiles" "[I") (by decide +kernel)) (fun _ h9 => h9) rfl dX1_makeDirty_37 ?_
          refine lv_aload_n hx hb dX1_makeDirty_40 rfl (lv_at hl 0 rfl) ?_
          refine va_get (D := D) (ci := 1) (v := .int (nI L.length)) (C := RX1) (T := TX1) (N := 9) hx hb hts iX1_makeDirty_X1 hown hG.1 hP 0 rfl rfl 5 (by decide) (hts (.fieldLink RX1 36 "DirtyTiles$Client" "dirtyCount" "I") (by decide +kernel)) (fun _ h9 => h9) rfl dX1_makeDirty_41 ?_
          refine lv_iload_n hx hb dX1_makeDirty_44 rfl (lv_at hl 1 rfl) ?_
          refine g_iast hx hb hG hP hD hS 1 0 rfl rfl (k := L.length) (by omega) (by decide) dX1_makeDirty_45 (fun H locs hP hD hS => ?_)
          have hP : va_P D vwCl [(q 0, eCli (gb (J)) (q 1) (q 3) (q 5) (q 7) (nI L.length) (q 8) (q 9) k), (q 7, eI cy 12 (upd f L.length (nI t)))] H := hP
          have hD : va_D AA [(q 0, eCli (gb (J)) (q 1) (q 3) (q 5) (q 7) (nI L.length) (q 8) (q 9) k), (q 7, eI cy 12 (upd f L.length (nI t)))] := hD
          refine lv_aload_n hx hb dX1_makeDirty_46 rfl (lv_at hl 0 rfl) ?_
          refine lv_dup hx hb dX1_makeDirty_47 rfl ?_
          refine va_get (D := D) (ci := 1) (v := .int (nI L.length)) (C := RX1) (T := TX1) (N := 9) hx hb hts iX1_makeDirty_X1 hown hG.1 hP 0 rfl rfl 5 (by decide) (hts (.fieldLink RX1 36 "DirtyTiles$Client" "dirtyCount" "I") (by decide +kernel)) (fun _ h9 => h9) rfl dX1_makeDirty_48 ?_
          refine lv_iconst (v := nI 1) hx hb dX1_makeDirty_51 (by decide) ?_
          refine lv_iadd hx hb dX1_makeDirty_52 ?_
          refine g_ti (y := nI (L.length + 1)) (nI_add _ _) ?_
          refine va_put (D := D) (ci := 1) (v := .int (nI (L.length + 1))) (ty := .int) (C := RX1) (T := TX1) (N := 9) hx hb hts iX1_makeDirty_X1 tyX1 tyX1_ok nmX1 hown hG.1 hP hD hS 0 rfl rfl 5 (by decide) (hts (.fieldLink RX1 36 "DirtyTiles$Client" "dirtyCount" "I") (by decide +kernel)) (fun _ h9 => h9) rfl (by decide +kernel) rfl rfl (Nat.le_of_ble_eq_true rfl) dX1_makeDirty_53 (fun H locs hP hD hS => ?_)
          have hP : va_P D vwCl [(q 0, eCli (gb (J)) (q 1) (q 3) (q 5) (q 7) (nI (L.length + 1)) (q 8) (q 9) k), (q 7, eI cy 12 (upd f L.length (nI t)))] H := hP
          have hD : va_D AA [(q 0, eCli (gb (J)) (q 1) (q 3) (q 5) (q 7) (nI (L.length + 1)) (q 8) (q 9) k), (q 7, eI cy 12 (upd f L.length (nI t)))] := hD
          have z3 : (L ++ [t]).length = L.length + 1 := by rw [List.length_append, List.length_singleton]
          rw [← z3] at hP hD
          exact hret _ _ _ _ ⟨L ++ [t], upd f L.length (nI t)⟩ dX1_makeDirty_56 (⟨e9.symm, by rw [e9]; exact hN_app hL⟩) (hP.sub [0, 1] rfl) (hD.sub [0, 1] (by decide) rfl) hS
      · skip
        have c_7 : ¬ L.length ≤ i := fun z => c_7 ((nI_leI (a := L.length) (b := i) (by omega) (by omega)).mpr z)
        refine lv_aload_n hx hb dX1_makeDirty_10 rfl (lv_at hl 0 rfl) ?_
        refine va_get (D := D) (ci := 1) (v := .ref (q 7)) (C := RX1) (T := TX1) (N := 9) hx hb hts iX1_makeDirty_X1 hown hG.1 hP 0 rfl rfl 4 (by decide) (hts (.fieldLink RX1 32 "DirtyTiles$Client" "dirtyTiles" "[I") (by decide +kernel)) (fun _ h9 => h9) rfl dX1_makeDirty_11 ?_
        refine lv_iload_n hx hb dX1_makeDirty_14 rfl (lv_at hl 2 rfl) ?_
        refine g_iald hx hb hG hP 1 0 rfl rfl (k := i) (by omega) (by decide) dX1_makeDirty_15 ?_
        refine g_ti (y := nI (L.getD i 0)) (hL i (by omega)) ?_
        refine lv_iload_n hx hb dX1_makeDirty_16 rfl (lv_at hl 1 rfl) ?_
        refine lv_icmp_ne (tgt := 21) hx hb dX1_makeDirty_17 (by decide) (fun c_17 => ?_) (fun c_17 => ?_)
        · skip
          have c_17 : ¬ (L.getD i 0) = t := fun z => c_17 ((nI_eq (a := (L.getD i 0)) (b := t) (by have := okD_get ho (i := i) (by omega); omega) (by omega)).mpr z)
          refine lv_iinc (v := nI (i + 1)) (lv' := [(2, .int (nI (i + 1))), (0, .ref (q 0)), (1, .int (nI t))]) hx hb dX1_makeDirty_21 hl (k := 2) rfl (nI_1 _) (by decide) rfl (fun ls hl => ?_)
          refine lv_goto (tgt := 2) hx hb dX1_makeDirty_24 (by decide) ?_
          exact ih_2 (i + 1) (by omega) (by omega) (lt_s hno c_17) _ _ _ (hP.sub [0, 1] rfl) (hD.sub [0, 1] (by decide) rfl) hS (lv_sub hl [1, 2, 0] rfl)
        · skip
          have c_17 : (L.getD i 0) = t := (nI_eq (a := (L.getD i 0)) (b := t) (by have := okD_get ho (i := i) (by omega); omega) (by omega)).mp c_17
          have e9 : soil L t = L := soil_in (i := i) (by omega) c_17
          exact hret _ _ _ _ ⟨L, f⟩ dX1_makeDirty_20 (⟨e9.symm, by rw [e9]; exact hL⟩) (hP.sub [0, 1] rfl) (hD.sub [0, 1] (by decide) rfl) hS
  exact loop_2 ((L.length - 0) + 1) 0 (Nat.lt_succ_self _) (by omega) (fun j hj => absurd hj (Nat.not_lt_zero j)) _ _ _ (hP.sub [0, 1] rfl) (hD.sub [0, 1] (by decide) rfl) hS (lv_sub hl [1, 2, 0] rfl)
theorem iX1_addToMessage_X1 : ∀ w ∈ wsX10, w ∈ wsX1_addToMessage := by decide +kernel
set_option maxHeartbeats 4000000 in
set_option maxRecDepth 100000 in
theorem c_X1_addToMessage (l : Launch) (D : va_G) (cy : Nat → ClassId) (sz : Nat) (q : Nat → Nat) (J : Prop) (dc : Int32) (M : List (Nat × Int64)) (ft : Nat → Int32) (fm : Nat → Int64) (L : List Int64) (f : Nat → Int64) (t : Nat) (x : Int64) (hm9 : hM M ft fm) (hn : M.length < 12) (hf : hC L f) (hL : L.length ≤ 6) : Met l yX1_addToMessage wsX1_addToMessage ({ frames := 2, cells := 0, slots := 0, locals := 54 } : Room) (va_Pc [.ref (q 0), .int (nI t), .long x] (gI D (gT cy) [(q 0, eCli (gb (J)) (q 1) (q 3) (q 5) (q 7) dc (q 8) (q 9) (nI M.length)), (q 5, eCch (q 6) (nI L.length)), (q 6, eJ cy 6 f), (q 8, eI cy 12 ft), (q 9, eJ cy 12 fm)] sz)) (va_Qv (fun u : (Nat → Int64) × (Nat → Int32) × (Nat → Int64) => (hC (brg L x) u.1 ∧ hM (M ++ [(t, x)]) u.2.1 u.2.2)) (gO D (fun u : (Nat → Int64) × (Nat → Int32) × (Nat → Int64) => [(q 0, eCli (gb (J)) (q 1) (q 3) (q 5) (q 7) dc (q 8) (q 9) (nI (M.length + 1))), (q 5, eCch (q 6) (nI (brg L x).length)), (q 6, eJ cy 6 u.1), (q 8, eI cy 12 u.2.1), (q 9, eJ cy 12 u.2.2)]) (va_A [(q 0, eCli (gb (J)) (q 1) (q 3) (q 5) (q 7) dc (q 8) (q 9) (nI M.length)), (q 5, eCch (q 6) (nI L.length)), (q 6, eJ cy 6 f), (q 8, eI cy 12 ft), (q 9, eJ cy 12 fm)] sz)) (va_A [(q 0, eCli (gb (J)) (q 1) (q 3) (q 5) (q 7) dc (q 8) (q 9) (nI M.length)), (q 5, eCch (q 6) (nI L.length)), (q 6, eJ cy 6 f), (q 8, eI cy 12 ft), (q 9, eJ cy 12 fm)] sz)) 0 0 (va_A [(q 0, eCli (gb (J)) (q 1) (q 3) (q 5) (q 7) dc (q 8) (q 9) (nI M.length)), (q 5, eCch (q 6) (nI L.length)), (q 6, eJ cy 6 f), (q 8, eI cy 12 ft), (q 9, eJ cy 12 fm)] sz) := by
  refine gW_v (cc := cX1_addToMessage) (maxL := 4) (by decide) rfl (Nat.le_of_ble_eq_true rfl) ?_
  intro pp ee ss mm bw mt cd QQ AA ls hfx hP hG hD hA hret hl
  have hS : va_S AA ss.heap ss.heap [] := va_S.rf
  obtain ⟨H, eH⟩ : ∃ H, H = ss.heap := ⟨_, rfl⟩
  obtain ⟨locs, eL⟩ : ∃ L : List Loc, L = [] := ⟨_, rfl⟩
  have hP : va_P D vwCl [(q 0, eCli (gb (J)) (q 1) (q 3) (q 5) (q 7) dc (q 8) (q 9) (nI M.length)), (q 5, eCch (q 6) (nI L.length)), (q 6, eJ cy 6 f), (q 8, eI cy 12 ft), (q 9, eJ cy 12 fm)] H := by rw [eH]; exact hP
  have hS : va_S AA ss.heap H locs := by rw [eH, eL]; exact hS
  have goal : ∀ X Y, X = H → Y = locs → W pp l ee ({ frames := 2, cells := 0, slots := 0, locals := 54 } : Room) ss mm ([.ref (q 0), .int (nI t), .long x] : List Value).toArray bw mt cd X Y 0 0 QQ (F0 mm 0 ls []) → W pp l ee ({ frames := 2, cells := 0, slots := 0, locals := 54 } : Room) ss mm ([.ref (q 0), .int (nI t), .long x] : List Value).toArray bw mt cd ss.heap [] 0 0 QQ (F0 mm 0 ls []) := fun X Y hX hY h => by rw [hX, hY, eH, eL] at h; exact h
  refine goal H locs rfl rfl ?_
  clear goal eH eL
  obtain ⟨hx, hb, hml, hown, hts, hlocks⟩ := hfx
  have hown : ss.vm.findClass RX1 = some mm.cls := hown
  have hl : lv_has ls 4 [(0, .ref (q 0)), (1, .int (nI t)), (2, .long x)] := hl
  refine lv_aload_n hx hb dX1_addToMessage_0 rfl (lv_at hl 0 rfl) ?_
  refine va_get (D := D) (ci := 1) (v := .int (nI M.length)) (C := RX1) (T := TX1) (N := 9) hx hb hts iX1_addToMessage_X1 hown hG.1 hP 0 rfl rfl 8 (by decide) (hts (.fieldLink RX1 47 "DirtyTiles$Client" "messageCount" "I") (by decide +kernel)) (fun _ h9 => h9) rfl dX1_addToMessage_1 ?_
  refine lv_bipush (v := nI 12) hx hb dX1_addToMessage_4 (by decide) ?_
  refine lv_icmp_ge (tgt := 39) hx hb dX1_addToMessage_6 (by decide) (fun c_6 => ?_) (fun c_6 => ?_)
  · skip
    have c_6 : 12 ≤ M.length := (nI_leI (a := 12) (b := M.length) (by omega) (by omega)).mp c_6
    exact absurd c_6 (by omega)
  · skip
    have c_6 : ¬ 12 ≤ M.length := fun z => c_6 ((nI_leI (a := 12) (b := M.length) (by omega) (by omega)).mpr z)
    refine lv_aload_n hx hb dX1_addToMessage_9 rfl (lv_at hl 0 rfl) ?_
    refine va_get (D := D) (ci := 1) (v := .ref (q 8)) (C := RX1) (T := TX1) (N := 9) hx hb hts iX1_addToMessage_X1 hown hG.1 hP 0 rfl rfl 6 (by decide) (hts (.fieldLink RX1 40 "DirtyTiles$Client" "messageTiles" "[I") (by decide +kernel)) (fun _ h9 => h9) rfl dX1_addToMessage_10 ?_
    refine lv_aload_n hx hb dX1_addToMessage_13 rfl (lv_at hl 0 rfl) ?_
    refine va_get (D := D) (ci := 1) (v := .int (nI M.length)) (C := RX1) (T := TX1) (N := 9) hx hb hts iX1_addToMessage_X1 hown hG.1 hP 0 rfl rfl 8 (by decide) (hts (.fieldLink RX1 47 "DirtyTiles$Client" "messageCount" "I") (by decide +kernel)) (fun _ h9 => h9) rfl dX1_addToMessage_14 ?_
    refine lv_iload_n hx hb dX1_addToMessage_17 rfl (lv_at hl 1 rfl) ?_
    refine g_iast hx hb hG hP hD hS 3 0 rfl rfl (k := M.length) (by omega) (by decide) dX1_addToMessage_18 (fun H locs hP hD hS => ?_)
    have hP : va_P D vwCl [(q 0, eCli (gb (J)) (q 1) (q 3) (q 5) (q 7) dc (q 8) (q 9) (nI M.length)), (q 5, eCch (q 6) (nI L.length)), (q 6, eJ cy 6 f), (q 8, eI cy 12 (upd ft M.length (nI t))), (q 9, eJ cy 12 fm)] H := hP
    have hD : va_D AA [(q 0, eCli (gb (J)) (q 1) (q 3) (q 5) (q 7) dc (q 8) (q 9) (nI M.length)), (q 5, eCch (q 6) (nI L.length)), (q 6, eJ cy 6 f), (q 8, eI cy 12 (upd ft M.length (nI t))), (q 9, eJ cy 12 fm)] := hD
    refine lv_aload_n hx hb dX1_addToMessage_19 rfl (lv_at hl 0 rfl) ?_
    refine va_get (D := D) (ci := 1) (v := .ref (q 9)) (C := RX1) (T := TX1) (N := 9) hx hb hts iX1_addToMessage_X1 hown hG.1 hP 0 rfl rfl 7 (by decide) (hts (.fieldLink RX1 43 "DirtyTiles$Client" "messageCells" "[J") (by decide +kernel)) (fun _ h9 => h9) rfl dX1_addToMessage_20 ?_
    refine lv_aload_n hx hb dX1_addToMessage_23 rfl (lv_at hl 0 rfl) ?_
    refine va_get (D := D) (ci := 1) (v := .int (nI M.length)) (C := RX1) (T := TX1) (N := 9) hx hb hts iX1_addToMessage_X1 hown hG.1 hP 0 rfl rfl 8 (by decide) (hts (.fieldLink RX1 47 "DirtyTiles$Client" "messageCount" "I") (by decide +kernel)) (fun _ h9 => h9) rfl dX1_addToMessage_24 ?_
    refine lv_lload_n hx hb dX1_addToMessage_27 rfl (lv_at hl 2 rfl) ?_
    refine g_last hx hb hG hP hD hS 4 1 rfl rfl (k := M.length) (by omega) (by decide) dX1_addToMessage_28 (fun H locs hP hD hS => ?_)
    have hP : va_P D vwCl [(q 0, eCli (gb (J)) (q 1) (q 3) (q 5) (q 7) dc (q 8) (q 9) (nI M.length)), (q 5, eCch (q 6) (nI L.length)), (q 6, eJ cy 6 f), (q 8, eI cy 12 (upd ft M.length (nI t))), (q 9, eJ cy 12 (vp_updL fm M.length x))] H := hP
    have hD : va_D AA [(q 0, eCli (gb (J)) (q 1) (q 3) (q 5) (q 7) dc (q 8) (q 9) (nI M.length)), (q 5, eCch (q 6) (nI L.length)), (q 6, eJ cy 6 f), (q 8, eI cy 12 (upd ft M.length (nI t))), (q 9, eJ cy 12 (vp_updL fm M.length x))] := hD
    refine lv_aload_n hx hb dX1_addToMessage_29 rfl (lv_at hl 0 rfl) ?_
    refine lv_dup hx hb dX1_addToMessage_30 rfl ?_
    refine va_get (D := D) (ci := 1) (v := .int (nI M.length)) (C := RX1) (T := TX1) (N := 9) hx hb hts iX1_addToMessage_X1 hown hG.1 hP 0 rfl rfl 8 (by decide) (hts (.fieldLink RX1 47 "DirtyTiles$Client" "messageCount" "I") (by decide +kernel)) (fun _ h9 => h9) rfl dX1_addToMessage_31 ?_
    refine lv_iconst (v := nI 1) hx hb dX1_addToMessage_34 (by decide) ?_
    refine lv_iadd hx hb dX1_addToMessage_35 ?_
    refine g_ti (y := nI (M.length + 1)) (nI_add _ _) ?_
    refine va_put (D := D) (ci := 1) (v := .int (nI (M.length + 1))) (ty := .int) (C := RX1) (T := TX1) (N := 9) hx hb hts iX1_addToMessage_X1 tyX1 tyX1_ok nmX1 hown hG.1 hP hD hS 0 rfl rfl 8 (by decide) (hts (.fieldLink RX1 47 "DirtyTiles$Client" "messageCount" "I") (by decide +kernel)) (fun _ h9 => h9) rfl (by decide +kernel) rfl rfl (Nat.le_of_ble_eq_true rfl) dX1_addToMessage_36 (fun H locs hP hD hS => ?_)
    have hP : va_P D vwCl [(q 0, eCli (gb (J)) (q 1) (q 3) (q 5) (q 7) dc (q 8) (q 9) (nI (M.length + 1))), (q 5, eCch (q 6) (nI L.length)), (q 6, eJ cy 6 f), (q 8, eI cy 12 (upd ft M.length (nI t))), (q 9, eJ cy 12 (vp_updL fm M.length x))] H := hP
    have hD : va_D AA [(q 0, eCli (gb (J)) (q 1) (q 3) (q 5) (q 7) dc (q 8) (q 9) (nI (M.length + 1))), (q 5, eCch (q 6) (nI L.length)), (q 6, eJ cy 6 f), (q 8, eI cy 12 (upd ft M.length (nI t))), (q 9, eJ cy 12 (vp_updL fm M.length x))] := hD
    refine lv_aload_n hx hb dX1_addToMessage_39 rfl (lv_at hl 0 rfl) ?_
    refine va_get (D := D) (ci := 1) (v := .ref (q 5)) (C := RX1) (T := TX1) (N := 9) hx hb hts iX1_addToMessage_X1 hown hG.1 hP 0 rfl rfl 3 (by decide) (hts (.fieldLink RX1 29 "DirtyTiles$Client" "serverCache" "LDirtyTiles$Cache;") (by decide +kernel)) (fun _ h9 => h9) rfl dX1_addToMessage_40 ?_
    refine lv_lload_n hx hb dX1_addToMessage_43 rfl (lv_at hl 2 rfl) ?_
    refine gc_Wv (wn := fun u => [(q 0, eCli (gb (J)) (q 1) (q 3) (q 5) (q 7) dc (q 8) (q 9) (nI (M.length + 1))), (q 5, eCch (q 6) (nI (brg L x).length)), (q 6, eJ cy 6 u), (q 8, eI cy 12 (upd ft M.length (nI t))), (q 9, eJ cy 12 (vp_updL fm M.length x))]) (wr := [(q 0, eCli (gb (J)) (q 1) (q 3) (q 5) (q 7) dc (q 8) (q 9) (nI (M.length + 1))), (q 8, eI cy 12 (upd ft M.length (nI t))), (q 9, eJ cy 12 (vp_updL fm M.length x))]) (va_runV (As := [.long x]) (rest := []) ⟨hx, hb, hml, hown, hts⟩ (c_X0_bringToFront l D cy H.size (q 5) (q 6) L f x hf hL) (cwV 1 hts gX1_addToMessage_X0_bringToFront rfl rfl rfl (by decide +kernel) ⟨Nat.le_of_ble_eq_true rfl, Nat.le_of_ble_eq_true rfl⟩) (gpVI (ci := 0) (q0 := 0) hG (hP.sub [1, 2] rfl) (hD.sub [1, 2] (by decide) rfl) rfl rfl) rfl rfl hl.1 rfl (lv_room (Nat.le_of_ble_eq_true rfl)) dX1_addToMessage_44 ⟨Nat.zero_le _, Nat.zero_le _⟩) hP hD hS hA [1, 2] [0, 3, 4] [0, 3, 4, 1, 2] rfl rfl (by decide) (by decide) (fun _ => rfl) (by decide) (fun f2_44 H locs hw_44 hP hD hS => ?_)
    have hP : va_P D vwCl [(q 0, eCli (gb (J)) (q 1) (q 3) (q 5) (q 7) dc (q 8) (q 9) (nI (M.length + 1))), (q 5, eCch (q 6) (nI (brg L x).length)), (q 6, eJ cy 6 f2_44), (q 8, eI cy 12 (upd ft M.length (nI t))), (q 9, eJ cy 12 (vp_updL fm M.length x))] H := hP
    have hD : va_D AA [(q 0, eCli (gb (J)) (q 1) (q 3) (q 5) (q 7) dc (q 8) (q 9) (nI (M.length + 1))), (q 5, eCch (q 6) (nI (brg L x).length)), (q 6, eJ cy 6 f2_44), (q 8, eI cy 12 (upd ft M.length (nI t))), (q 9, eJ cy 12 (vp_updL fm M.length x))] := hD
    have hw_44 : hC (brg L x) f2_44 := hw_44
    exact hret _ _ _ _ ⟨f2_44, upd ft M.length (nI t), vp_updL fm M.length x⟩ dX1_addToMessage_47 (⟨hw_44, hM_app hm9⟩) (hP.sub [0, 1, 2, 3, 4] rfl) (hD.sub [0, 1, 2, 3, 4] (by decide) rfl) hS
theorem clean_step {n i : Nat} {f g : Nat → Int32} (hi : n ≤ i) (hg : ∀ j, g j = if j + n < i then f (j + n) else f j) : ∀ j, upd g (i - n) (g i) j = if j + n < i + 1 then f (j + n) else f j := by
  intro j
  by_cases e : j = i - n
  · subst e
    rw [pk_us, hg i, if_neg (by omega), if_pos (by omega), Nat.sub_add_cancel hi]
  · rw [pk_un e, hg j]
    by_cases h : j + n < i
    · rw [if_pos h, if_pos (by omega)]
    · rw [if_neg h, if_neg (by omega)]
theorem iX1_cleanTilesOfMessage_X1 : ∀ w ∈ wsX10, w ∈ wsX1_cleanTilesOfMessage := by decide +kernel
set_option maxHeartbeats 4000000 in
set_option maxRecDepth 100000 in
theorem c_X1_cleanTilesOfMessage (l : Launch) (D : va_G) (cy : Nat → ClassId) (sz : Nat) (q : Nat → Nat) (J : Prop) (n d : Nat) (f : Nat → Int32) (hn : n ≤ d) (hd : d ≤ 12) : Met l yX1_cleanTilesOfMessage wsX1_cleanTilesOfMessage ({ frames := 0, cells := 0, slots := 0, locals := 0 } : Room) (va_Pc [.ref (q 0)] (gI D (gT cy) [(q 0, eCli (gb (J)) (q 1) (q 3) (q 5) (q 7) (nI d) (q 8) (q 9) (nI n)), (q 7, eI cy 12 f)] sz)) (va_Qv (fun u : (Nat → Int32) => (∀ j, j + n < d → u j = f (j + n))) (gO D (fun u : (Nat → Int32) => [(q 0, eCli (gb (J)) (q 1) (q 3) (q 5) (q 7) (nI (d - n)) (q 8) (q 9) (nI n)), (q 7, eI cy 12 u)]) (va_A [(q 0, eCli (gb (J)) (q 1) (q 3) (q 5) (q 7) (nI d) (q 8) (q 9) (nI n)), (q 7, eI cy 12 f)] sz)) (va_A [(q 0, eCli (gb (J)) (q 1) (q 3) (q 5) (q 7) (nI d) (q 8) (q 9) (nI n)), (q 7, eI cy 12 f)] sz)) 0 0 (va_A [(q 0, eCli (gb (J)) (q 1) (q 3) (q 5) (q 7) (nI d) (q 8) (q 9) (nI n)), (q 7, eI cy 12 f)] sz) := by
  refine gW_v (cc := cX1_cleanTilesOfMessage) (maxL := 2) (by decide) rfl (Nat.le_of_ble_eq_true rfl) ?_
  intro pp ee ss mm bw mt cd QQ AA ls hfx hP hG hD hA hret hl
  have hS : va_S AA ss.heap ss.heap [] := va_S.rf
  obtain ⟨H, eH⟩ : ∃ H, H = ss.heap := ⟨_, rfl⟩
  obtain ⟨locs, eL⟩ : ∃ L : List Loc, L = [] := ⟨_, rfl⟩
  have hP : va_P D vwCl [(q 0, eCli (gb (J)) (q 1) (q 3) (q 5) (q 7) (nI d) (q 8) (q 9) (nI n)), (q 7, eI cy 12 f)] H := by rw [eH]; exact hP
  have hS : va_S AA ss.heap H locs := by rw [eH, eL]; exact hS
  have goal : ∀ X Y, X = H → Y = locs → W pp l ee ({ frames := 0, cells := 0, slots := 0, locals := 0 } : Room) ss mm ([.ref (q 0)] : List Value).toArray bw mt cd X Y 0 0 QQ (F0 mm 0 ls []) → W pp l ee ({ frames := 0, cells := 0, slots := 0, locals := 0 } : Room) ss mm ([.ref (q 0)] : List Value).toArray bw mt cd ss.heap [] 0 0 QQ (F0 mm 0 ls []) := fun X Y hX hY h => by rw [hX, hY, eH, eL] at h; exact h
  refine goal H locs rfl rfl ?_
  clear goal eH eL
  obtain ⟨hx, hb, hml, hown, hts, hlocks⟩ := hfx
  have hown : ss.vm.findClass RX1 = some mm.cls := hown
  have hl : lv_has ls 2 [(0, .ref (q 0))] := hl
  refine lv_aload_n hx hb dX1_cleanTilesOfMessage_0 rfl (lv_at hl 0 rfl) ?_
  refine va_get (D := D) (ci := 1) (v := .int (nI n)) (C := RX1) (T := TX1) (N := 9) hx hb hts iX1_cleanTilesOfMessage_X1 hown hG.1 hP 0 rfl rfl 8 (by decide) (hts (.fieldLink RX1 47 "DirtyTiles$Client" "messageCount" "I") (by decide +kernel)) (fun _ h9 => h9) rfl dX1_cleanTilesOfMessage_1 ?_
  refine lv_istore_n (lv' := [(1, .int (nI n)), (0, .ref (q 0))]) hx hb dX1_cleanTilesOfMessage_4 rfl hl (by decide) rfl (fun ls hl => ?_)
  have loop_5 : ∀ (n9 : Nat) (i : Nat) (g : Nat → Int32), d - i < n9 → (n ≤ i ∧ i ≤ d) → (∀ j, g j = if j + n < i then f (j + n) else f j) → ∀ (H : Heap) (locs : List Loc) (ls : Array Slot), va_P D vwCl [(q 0, eCli (gb (J)) (q 1) (q 3) (q 5) (q 7) (nI d) (q 8) (q 9) (nI n)), (q 7, eI cy 12 g)] H → va_D AA [(q 0, eCli (gb (J)) (q 1) (q 3) (q 5) (q 7) (nI d) (q 8) (q 9) (nI n)), (q 7, eI cy 12 g)] → va_S AA ss.heap H locs → lv_has ls 2 [(0, .ref (q 0)), (1, .int (nI i))] → W pp l ee ({ frames := 0, cells := 0, slots := 0, locals := 0 } : Room) ss mm ([.ref (q 0)] : List Value).toArray bw mt cd H locs 0 0 QQ (F0 mm 5 ls []) := by
    intro n9
    induction n9 with
    | zero => intro i g h9; exact absurd h9 (Nat.not_lt_zero _)
    | succ n9 ih_5 =>
      intro i g hm_5 hi hg H locs ls hP hD hS hl
      refine lv_iload_n hx hb dX1_cleanTilesOfMessage_5 rfl (lv_at hl 1 rfl) ?_
      refine lv_aload_n hx hb dX1_cleanTilesOfMessage_6 rfl (lv_at hl 0 rfl) ?_
      refine va_get (D := D) (ci := 1) (v := .int (nI d)) (C := RX1) (T := TX1) (N := 9) hx hb hts iX1_cleanTilesOfMessage_X1 hown hG.1 hP 0 rfl rfl 5 (by decide) (hts (.fieldLink RX1 36 "DirtyTiles$Client" "dirtyCount" "I") (by decide +kernel)) (fun _ h9 => h9) rfl dX1_cleanTilesOfMessage_7 ?_
      refine lv_icmp_ge (tgt := 36) hx hb dX1_cleanTilesOfMessage_10 (by decide) (fun c_10 => ?_) (fun c_10 => ?_)
      · skip
        have c_10 : d ≤ i := (nI_leI (a := d) (b := i) (by omega) (by omega)).mp c_10
        refine lv_aload_n hx hb dX1_cleanTilesOfMessage_36 rfl (lv_at hl 0 rfl) ?_
        refine lv_dup hx hb dX1_cleanTilesOfMessage_37 rfl ?_
        refine va_get (D := D) (ci := 1) (v := .int (nI d)) (C := RX1) (T := TX1) (N := 9) hx hb hts iX1_cleanTilesOfMessage_X1 hown hG.1 hP 0 rfl rfl 5 (by decide) (hts (.fieldLink RX1 36 "DirtyTiles$Client" "dirtyCount" "I") (by decide +kernel)) (fun _ h9 => h9) rfl dX1_cleanTilesOfMessage_38 ?_
        refine lv_aload_n hx hb dX1_cleanTilesOfMessage_41 rfl (lv_at hl 0 rfl) ?_
        refine va_get (D := D) (ci := 1) (v := .int (nI n)) (C := RX1) (T := TX1) (N := 9) hx hb hts iX1_cleanTilesOfMessage_X1 hown hG.1 hP 0 rfl rfl 8 (by decide) (hts (.fieldLink RX1 47 "DirtyTiles$Client" "messageCount" "I") (by decide +kernel)) (fun _ h9 => h9) rfl dX1_cleanTilesOfMessage_42 ?_
        refine lv_isub hx hb dX1_cleanTilesOfMessage_45 ?_
        refine g_ti (y := nI (d - n)) (pk_sub (by omega)) ?_
        refine va_put (D := D) (ci := 1) (v := .int (nI (d - n))) (ty := .int) (C := RX1) (T := TX1) (N := 9) hx hb hts iX1_cleanTilesOfMessage_X1 tyX1 tyX1_ok nmX1 hown hG.1 hP hD hS 0 rfl rfl 5 (by decide) (hts (.fieldLink RX1 36 "DirtyTiles$Client" "dirtyCount" "I") (by decide +kernel)) (fun _ h9 => h9) rfl (by decide +kernel) rfl rfl (Nat.le_of_ble_eq_true rfl) dX1_cleanTilesOfMessage_46 (fun H locs hP hD hS => ?_)
        have hP : va_P D vwCl [(q 0, eCli (gb (J)) (q 1) (q 3) (q 5) (q 7) (nI (d - n)) (q 8) (q 9) (nI n)), (q 7, eI cy 12 g)] H := hP
        have hD : va_D AA [(q 0, eCli (gb (J)) (q 1) (q 3) (q 5) (q 7) (nI (d - n)) (q 8) (q 9) (nI n)), (q 7, eI cy 12 g)] := hD
        exact hret _ _ _ _ g dX1_cleanTilesOfMessage_49 (fun j hj => by rw [hg j, if_pos (by omega)]) (hP.sub [0, 1] rfl) (hD.sub [0, 1] (by decide) rfl) hS
      · skip
        have c_10 : ¬ d ≤ i := fun z => c_10 ((nI_leI (a := d) (b := i) (by omega) (by omega)).mpr z)
        refine lv_aload_n hx hb dX1_cleanTilesOfMessage_13 rfl (lv_at hl 0 rfl) ?_
        refine va_get (D := D) (ci := 1) (v := .ref (q 7)) (C := RX1) (T := TX1) (N := 9) hx hb hts iX1_cleanTilesOfMessage_X1 hown hG.1 hP 0 rfl rfl 4 (by decide) (hts (.fieldLink RX1 32 "DirtyTiles$Client" "dirtyTiles" "[I") (by decide +kernel)) (fun _ h9 => h9) rfl dX1_cleanTilesOfMessage_14 ?_
        refine lv_iload_n hx hb dX1_cleanTilesOfMessage_17 rfl (lv_at hl 1 rfl) ?_
        refine lv_aload_n hx hb dX1_cleanTilesOfMessage_18 rfl (lv_at hl 0 rfl) ?_
        refine va_get (D := D) (ci := 1) (v := .int (nI n)) (C := RX1) (T := TX1) (N := 9) hx hb hts iX1_cleanTilesOfMessage_X1 hown hG.1 hP 0 rfl rfl 8 (by decide) (hts (.fieldLink RX1 47 "DirtyTiles$Client" "messageCount" "I") (by decide +kernel)) (fun _ h9 => h9) rfl dX1_cleanTilesOfMessage_19 ?_
        refine lv_isub hx hb dX1_cleanTilesOfMessage_22 ?_
        refine g_ti (y := nI (i - n)) (pk_sub (by omega)) ?_
        refine lv_aload_n hx hb dX1_cleanTilesOfMessage_23 rfl (lv_at hl 0 rfl) ?_
        refine va_get (D := D) (ci := 1) (v := .ref (q 7)) (C := RX1) (T := TX1) (N := 9) hx hb hts iX1_cleanTilesOfMessage_X1 hown hG.1 hP 0 rfl rfl 4 (by decide) (hts (.fieldLink RX1 32 "DirtyTiles$Client" "dirtyTiles" "[I") (by decide +kernel)) (fun _ h9 => h9) rfl dX1_cleanTilesOfMessage_24 ?_
        refine lv_iload_n hx hb dX1_cleanTilesOfMessage_27 rfl (lv_at hl 1 rfl) ?_
        refine g_iald hx hb hG hP 1 0 rfl rfl (k := i) (by omega) (by decide) dX1_cleanTilesOfMessage_28 ?_
        refine g_iast hx hb hG hP hD hS 1 0 rfl rfl (k := i - n) (by omega) (by decide) dX1_cleanTilesOfMessage_29 (fun H locs hP hD hS => ?_)
        have hP : va_P D vwCl [(q 0, eCli (gb (J)) (q 1) (q 3) (q 5) (q 7) (nI d) (q 8) (q 9) (nI n)), (q 7, eI cy 12 (upd g (i - n) (g i)))] H := hP
        have hD : va_D AA [(q 0, eCli (gb (J)) (q 1) (q 3) (q 5) (q 7) (nI d) (q 8) (q 9) (nI n)), (q 7, eI cy 12 (upd g (i - n) (g i)))] := hD
        refine lv_iinc (v := nI (i + 1)) (lv' := [(1, .int (nI (i + 1))), (0, .ref (q 0))]) hx hb dX1_cleanTilesOfMessage_30 hl (k := 1) rfl (nI_1 _) (by decide) rfl (fun ls hl => ?_)
        refine lv_goto (tgt := 5) hx hb dX1_cleanTilesOfMessage_33 (by decide) ?_
        exact ih_5 (i + 1) (upd g (i - n) (g i)) (by omega) (by omega) (clean_step hi.1 hg) _ _ _ (hP.sub [0, 1] rfl) (hD.sub [0, 1] (by decide) rfl) hS (lv_sub hl [1, 0] rfl)
  exact loop_5 ((d - n) + 1) n f (Nat.lt_succ_self _) (by omega) (fun j => by rw [if_neg (by omega)]) _ _ _ (hP.sub [0, 1] rfl) (hD.sub [0, 1] (by decide) rfl) hS (lv_sub hl [1, 0] rfl)
theorem iX1_takeMessage_X1 : ∀ w ∈ wsX10, w ∈ wsX1_takeMessage := by decide +kernel
set_option maxHeartbeats 4000000 in
set_option maxRecDepth 100000 in
theorem c_X1_takeMessage (l : Launch) (D : va_G) (cy : Nat → ClassId) (sz : Nat) (q : Nat → Nat) (J : Prop) (dc : Int32) (fs : Nat → Int64) (L : List Int64) (f : Nat → Int64) (M : List (Nat × Int64)) (ft : Nat → Int32) (fm : Nat → Int64) (hf : hC L f) (hL : L.length ≤ 6) (hm9 : hM M ft fm) (hn : M.length ≤ 12) (ho : okM M) : Met l yX1_takeMessage wsX1_takeMessage ({ frames := 2, cells := 0, slots := 0, locals := 54 } : Room) (va_Pc [.ref (q 0)] (gI D (gT cy) [(q 0, eCli (gb (J)) (q 1) (q 3) (q 5) (q 7) dc (q 8) (q 9) (nI M.length)), (q 1, eScr (q 2)), (q 2, eJ cy 12 fs), (q 3, eCch (q 4) (nI L.length)), (q 4, eJ cy 6 f), (q 8, eI cy 12 ft), (q 9, eJ cy 12 fm)] sz)) (va_Qi (fun (r9 : Int32) (u : (Nat → Int64) × (List Int64) × (Nat → Int64)) => r9 = nI M.length ∧ (u.1 = scrF M fs ∧ u.2.1 = cchF M L ∧ (hC u.2.1 u.2.2 ∧ u.2.1.length ≤ 6))) (gO D (fun u : (Nat → Int64) × (List Int64) × (Nat → Int64) => [(q 0, eCli (gb (J)) (q 1) (q 3) (q 5) (q 7) dc (q 8) (q 9) (nI 0)), (q 1, eScr (q 2)), (q 2, eJ cy 12 u.1), (q 3, eCch (q 4) (nI u.2.1.length)), (q 4, eJ cy 6 u.2.2), (q 8, eI cy 12 ft), (q 9, eJ cy 12 fm)]) (va_A [(q 0, eCli (gb (J)) (q 1) (q 3) (q 5) (q 7) dc (q 8) (q 9) (nI M.length)), (q 1, eScr (q 2)), (q 2, eJ cy 12 fs), (q 3, eCch (q 4) (nI L.length)), (q 4, eJ cy 6 f), (q 8, eI cy 12 ft), (q 9, eJ cy 12 fm)] sz)) (va_A [(q 0, eCli (gb (J)) (q 1) (q 3) (q 5) (q 7) dc (q 8) (q 9) (nI M.length)), (q 1, eScr (q 2)), (q 2, eJ cy 12 fs), (q 3, eCch (q 4) (nI L.length)), (q 4, eJ cy 6 f), (q 8, eI cy 12 ft), (q 9, eJ cy 12 fm)] sz)) 0 0 (va_A [(q 0, eCli (gb (J)) (q 1) (q 3) (q 5) (q 7) dc (q 8) (q 9) (nI M.length)), (q 1, eScr (q 2)), (q 2, eJ cy 12 fs), (q 3, eCch (q 4) (nI L.length)), (q 4, eJ cy 6 f), (q 8, eI cy 12 ft), (q 9, eJ cy 12 fm)] sz) := by
  refine gW_i (cc := cX1_takeMessage) (maxL := 3) (ty := .int) (by decide) rfl (Nat.le_of_ble_eq_true rfl) (fun v u hv => by rfl) ?_
  intro pp ee ss mm bw mt cd QQ AA ls hfx hP hG hD hA hret hl
  have hS : va_S AA ss.heap ss.heap [] := va_S.rf
  obtain ⟨H, eH⟩ : ∃ H, H = ss.heap := ⟨_, rfl⟩
  obtain ⟨locs, eL⟩ : ∃ L : List Loc, L = [] := ⟨_, rfl⟩
  have hP : va_P D vwCl [(q 0, eCli (gb (J)) (q 1) (q 3) (q 5) (q 7) dc (q 8) (q 9) (nI M.length)), (q 1, eScr (q 2)), (q 2, eJ cy 12 fs), (q 3, eCch (q 4) (nI L.length)), (q 4, eJ cy 6 f), (q 8, eI cy 12 ft), (q 9, eJ cy 12 fm)] H := by rw [eH]; exact hP
  have hS : va_S AA ss.heap H locs := by rw [eH, eL]; exact hS
  have goal : ∀ X Y, X = H → Y = locs → W pp l ee ({ frames := 2, cells := 0, slots := 0, locals := 54 } : Room) ss mm ([.ref (q 0)] : List Value).toArray bw mt cd X Y 0 0 QQ (F0 mm 0 ls []) → W pp l ee ({ frames := 2, cells := 0, slots := 0, locals := 54 } : Room) ss mm ([.ref (q 0)] : List Value).toArray bw mt cd ss.heap [] 0 0 QQ (F0 mm 0 ls []) := fun X Y hX hY h => by rw [hX, hY, eH, eL] at h; exact h
  refine goal H locs rfl rfl ?_
  clear goal eH eL
  obtain ⟨hx, hb, hml, hown, hts, hlocks⟩ := hfx
  have hown : ss.vm.findClass RX1 = some mm.cls := hown
  have hl : lv_has ls 3 [(0, .ref (q 0))] := hl
  refine lv_aload_n hx hb dX1_takeMessage_0 rfl (lv_at hl 0 rfl) ?_
  refine va_get (D := D) (ci := 1) (v := .int (nI M.length)) (C := RX1) (T := TX1) (N := 9) hx hb hts iX1_takeMessage_X1 hown hG.1 hP 0 rfl rfl 8 (by decide) (hts (.fieldLink RX1 47 "DirtyTiles$Client" "messageCount" "I") (by decide +kernel)) (fun _ h9 => h9) rfl dX1_takeMessage_1 ?_
  refine lv_istore_n (lv' := [(1, .int (nI M.length)), (0, .ref (q 0))]) hx hb dX1_takeMessage_4 rfl hl (by decide) rfl (fun ls hl => ?_)
  refine lv_iconst (v := nI 0) hx hb dX1_takeMessage_5 (by decide) ?_
  refine lv_istore_n (lv' := [(2, .int (nI 0)), (1, .int (nI M.length)), (0, .ref (q 0))]) hx hb dX1_takeMessage_6 rfl hl (by decide) rfl (fun ls hl => ?_)
  have loop_7 : ∀ (n9 : Nat) (i : Nat) (g : Nat → Int64) (P : List Int64) (fp : Nat → Int64), M.length - i < n9 → (i ≤ M.length) → (g = scrF (M.take i) fs) → (P = cchF (M.take i) L) → (hC P fp) → (P.length ≤ 6) → ∀ (H : Heap) (locs : List Loc) (ls : Array Slot), va_P D vwCl [(q 0, eCli (gb (J)) (q 1) (q 3) (q 5) (q 7) dc (q 8) (q 9) (nI M.length)), (q 1, eScr (q 2)), (q 2, eJ cy 12 g), (q 3, eCch (q 4) (nI P.length)), (q 4, eJ cy 6 fp), (q 8, eI cy 12 ft), (q 9, eJ cy 12 fm)] H → va_D AA [(q 0, eCli (gb (J)) (q 1) (q 3) (q 5) (q 7) dc (q 8) (q 9) (nI M.length)), (q 1, eScr (q 2)), (q 2, eJ cy 12 g), (q 3, eCch (q 4) (nI P.length)), (q 4, eJ cy 6 fp), (q 8, eI cy 12 ft), (q 9, eJ cy 12 fm)] → va_S AA ss.heap H locs → lv_has ls 3 [(0, .ref (q 0)), (1, .int (nI M.length)), (2, .int (nI i))] → W pp l ee ({ frames := 2, cells := 0, slots := 0, locals := 54 } : Room) ss mm ([.ref (q 0)] : List Value).toArray bw mt cd H locs 0 0 QQ (F0 mm 7 ls []) := by
    intro n9
    induction n9 with
    | zero => intro i g P fp h9; exact absurd h9 (Nat.not_lt_zero _)
    | succ n9 ih_7 =>
      intro i g P fp hm_7 hi hg hp9 hfp hP6 H locs ls hP hD hS hl
      refine lv_iload_n hx hb dX1_takeMessage_7 rfl (lv_at hl 2 rfl) ?_
      refine lv_iload_n hx hb dX1_takeMessage_8 rfl (lv_at hl 1 rfl) ?_
      refine lv_icmp_ge (tgt := 50) hx hb dX1_takeMessage_9 (by decide) (fun c_9 => ?_) (fun c_9 => ?_)
      · skip
        have c_9 : M.length ≤ i := (nI_leI (a := M.length) (b := i) (by omega) (by omega)).mp c_9
        refine lv_aload_n hx hb dX1_takeMessage_50 rfl (lv_at hl 0 rfl) ?_
        refine lv_iconst (v := nI 0) hx hb dX1_takeMessage_51 (by decide) ?_
        refine va_put (D := D) (ci := 1) (v := .int (nI 0)) (ty := .int) (C := RX1) (T := TX1) (N := 9) hx hb hts iX1_takeMessage_X1 tyX1 tyX1_ok nmX1 hown hG.1 hP hD hS 0 rfl rfl 8 (by decide) (hts (.fieldLink RX1 47 "DirtyTiles$Client" "messageCount" "I") (by decide +kernel)) (fun _ h9 => h9) rfl (by decide +kernel) rfl rfl (Nat.le_of_ble_eq_true rfl) dX1_takeMessage_52 (fun H locs hP hD hS => ?_)
        have hP : va_P D vwCl [(q 0, eCli (gb (J)) (q 1) (q 3) (q 5) (q 7) dc (q 8) (q 9) (nI 0)), (q 1, eScr (q 2)), (q 2, eJ cy 12 g), (q 3, eCch (q 4) (nI P.length)), (q 4, eJ cy 6 fp), (q 8, eI cy 12 ft), (q 9, eJ cy 12 fm)] H := hP
        have hD : va_D AA [(q 0, eCli (gb (J)) (q 1) (q 3) (q 5) (q 7) dc (q 8) (q 9) (nI 0)), (q 1, eScr (q 2)), (q 2, eJ cy 12 g), (q 3, eCch (q 4) (nI P.length)), (q 4, eJ cy 6 fp), (q 8, eI cy 12 ft), (q 9, eJ cy 12 fm)] := hD
        refine lv_iload_n hx hb dX1_takeMessage_55 rfl (lv_at hl 1 rfl) ?_
        have e9 : i = M.length := by omega
        rw [e9, List.take_length] at hg hp9
        exact hret _ _ _ _ _ ⟨g, P, fp⟩ dX1_takeMessage_56 (⟨rfl, hg, hp9, hfp, hP6⟩) (hP.sub [0, 1, 2, 3, 4, 5, 6] rfl) (hD.sub [0, 1, 2, 3, 4, 5, 6] (by decide) rfl) hS
      · skip
        have c_9 : ¬ M.length ≤ i := fun z => c_9 ((nI_leI (a := M.length) (b := i) (by omega) (by omega)).mpr z)
        refine lv_aload_n hx hb dX1_takeMessage_12 rfl (lv_at hl 0 rfl) ?_
        refine va_get (D := D) (ci := 1) (v := .ref (q 1)) (C := RX1) (T := TX1) (N := 9) hx hb hts iX1_takeMessage_X1 hown hG.1 hP 0 rfl rfl 1 (by decide) (hts (.fieldLink RX1 18 "DirtyTiles$Client" "ownScreen" "LDirtyTiles$Screen;") (by decide +kernel)) (fun _ h9 => h9) rfl dX1_takeMessage_13 ?_
        refine lv_aload_n hx hb dX1_takeMessage_16 rfl (lv_at hl 0 rfl) ?_
        refine va_get (D := D) (ci := 1) (v := .ref (q 8)) (C := RX1) (T := TX1) (N := 9) hx hb hts iX1_takeMessage_X1 hown hG.1 hP 0 rfl rfl 6 (by decide) (hts (.fieldLink RX1 40 "DirtyTiles$Client" "messageTiles" "[I") (by decide +kernel)) (fun _ h9 => h9) rfl dX1_takeMessage_17 ?_
        refine lv_iload_n hx hb dX1_takeMessage_20 rfl (lv_at hl 2 rfl) ?_
        refine g_iald hx hb hG hP 5 0 rfl rfl (k := i) (by omega) (by decide) dX1_takeMessage_21 ?_
        refine g_ti (y := nI (mT M i)) ((hm9 i (by omega)).1) ?_
        refine lv_aload_n hx hb dX1_takeMessage_22 rfl (lv_at hl 0 rfl) ?_
        refine va_get (D := D) (ci := 1) (v := .ref (q 9)) (C := RX1) (T := TX1) (N := 9) hx hb hts iX1_takeMessage_X1 hown hG.1 hP 0 rfl rfl 7 (by decide) (hts (.fieldLink RX1 43 "DirtyTiles$Client" "messageCells" "[J") (by decide +kernel)) (fun _ h9 => h9) rfl dX1_takeMessage_23 ?_
        refine lv_iload_n hx hb dX1_takeMessage_26 rfl (lv_at hl 2 rfl) ?_
        refine g_lald hx hb hG hP 6 1 rfl rfl (k := i) (by omega) (by decide) dX1_takeMessage_27 ?_
        refine g_tl (y := mX M i) ((hm9 i (by omega)).2) ?_
        refine gc_Wv (wn := fun u => [(q 0, eCli (gb (J)) (q 1) (q 3) (q 5) (q 7) dc (q 8) (q 9) (nI M.length)), (q 1, eScr (q 2)), (q 2, eJ cy 12 u), (q 3, eCch (q 4) (nI P.length)), (q 4, eJ cy 6 fp), (q 8, eI cy 12 ft), (q 9, eJ cy 12 fm)]) (wr := [(q 0, eCli (gb (J)) (q 1) (q 3) (q 5) (q 7) dc (q 8) (q 9) (nI M.length)), (q 3, eCch (q 4) (nI P.length)), (q 4, eJ cy 6 fp), (q 8, eI cy 12 ft), (q 9, eJ cy 12 fm)]) (va_runV (As := [.int (nI (mT M i)), .long (mX M i)]) (rest := []) ⟨hx, hb, hml, hown, hts⟩ (c_X2_replaceTile l D cy H.size (q 1) (q 2) g (mT M i) (mX M i) (ho i (by omega))) (cwV 2 hts gX1_takeMessage_X2_replaceTile rfl rfl rfl (by decide +kernel) ⟨Nat.le_of_ble_eq_true rfl, Nat.le_of_ble_eq_true rfl⟩) (gpVI (ci := 2) (q0 := 0) hG (hP.sub [1, 2] rfl) (hD.sub [1, 2] (by decide) rfl) rfl rfl) rfl rfl hl.1 rfl (lv_room (Nat.le_of_ble_eq_true rfl)) dX1_takeMessage_28 ⟨Nat.zero_le _, Nat.zero_le _⟩) hP hD hS hA [1, 2] [0, 3, 4, 5, 6] [0, 5, 6, 1, 2, 3, 4] rfl rfl (by decide) (by decide) (fun _ => rfl) (by decide) (fun g2 H locs hw_28 hP hD hS => ?_)
        have hP : va_P D vwCl [(q 0, eCli (gb (J)) (q 1) (q 3) (q 5) (q 7) dc (q 8) (q 9) (nI M.length)), (q 1, eScr (q 2)), (q 2, eJ cy 12 g2), (q 3, eCch (q 4) (nI P.length)), (q 4, eJ cy 6 fp), (q 8, eI cy 12 ft), (q 9, eJ cy 12 fm)] H := hP
        have hD : va_D AA [(q 0, eCli (gb (J)) (q 1) (q 3) (q 5) (q 7) dc (q 8) (q 9) (nI M.length)), (q 1, eScr (q 2)), (q 2, eJ cy 12 g2), (q 3, eCch (q 4) (nI P.length)), (q 4, eJ cy 6 fp), (q 8, eI cy 12 ft), (q 9, eJ cy 12 fm)] := hD
        have hw_28 : g2 = vp_updL g (mT M i) (mX M i) := hw_28
        refine lv_aload_n hx hb dX1_takeMessage_31 rfl (lv_at hl 0 rfl) ?_
        refine va_get (D := D) (ci := 1) (v := .ref (q 3)) (C := RX1) (T := TX1) (N := 9) hx hb hts iX1_takeMessage_X1 hown hG.1 hP 0 rfl rfl 2 (by decide) (hts (.fieldLink RX1 25 "DirtyTiles$Client" "ownCache" "LDirtyTiles$Cache;") (by decide +kernel)) (fun _ h9 => h9) rfl dX1_takeMessage_32 ?_
        refine lv_aload_n hx hb dX1_takeMessage_35 rfl (lv_at hl 0 rfl) ?_
        refine va_get (D := D) (ci := 1) (v := .ref (q 9)) (C := RX1) (T := TX1) (N := 9) hx hb hts iX1_takeMessage_X1 hown hG.1 hP 0 rfl rfl 7 (by decide) (hts (.fieldLink RX1 43 "DirtyTiles$Client" "messageCells" "[J") (by decide +kernel)) (fun _ h9 => h9) rfl dX1_takeMessage_36 ?_
        refine lv_iload_n hx hb dX1_takeMessage_39 rfl (lv_at hl 2 rfl) ?_
        refine g_lald hx hb hG hP 6 1 rfl rfl (k := i) (by omega) (by decide) dX1_takeMessage_40 ?_
        refine g_tl (y := mX M i) ((hm9 i (by omega)).2) ?_
        refine gc_Wv (wn := fun u => [(q 0, eCli (gb (J)) (q 1) (q 3) (q 5) (q 7) dc (q 8) (q 9) (nI M.length)), (q 1, eScr (q 2)), (q 2, eJ cy 12 g2), (q 3, eCch (q 4) (nI (brg P (mX M i)).length)), (q 4, eJ cy 6 u), (q 8, eI cy 12 ft), (q 9, eJ cy 12 fm)]) (wr := [(q 0, eCli (gb (J)) (q 1) (q 3) (q 5) (q 7) dc (q 8) (q 9) (nI M.length)), (q 1, eScr (q 2)), (q 2, eJ cy 12 g2), (q 8, eI cy 12 ft), (q 9, eJ cy 12 fm)]) (va_runV (As := [.long (mX M i)]) (rest := []) ⟨hx, hb, hml, hown, hts⟩ (c_X0_bringToFront l D cy H.size (q 3) (q 4) P fp (mX M i) hfp hP6) (cwV 1 hts gX1_takeMessage_X0_bringToFront rfl rfl rfl (by decide +kernel) ⟨Nat.le_of_ble_eq_true rfl, Nat.le_of_ble_eq_true rfl⟩) (gpVI (ci := 0) (q0 := 0) hG (hP.sub [3, 4] rfl) (hD.sub [3, 4] (by decide) rfl) rfl rfl) rfl rfl hl.1 rfl (lv_room (Nat.le_of_ble_eq_true rfl)) dX1_takeMessage_41 ⟨Nat.zero_le _, Nat.zero_le _⟩) hP hD hS hA [3, 4] [0, 1, 2, 5, 6] [0, 1, 2, 5, 6, 3, 4] rfl rfl (by decide) (by decide) (fun _ => rfl) (by decide) (fun fp2 H locs hw_41 hP hD hS => ?_)
        have hP : va_P D vwCl [(q 0, eCli (gb (J)) (q 1) (q 3) (q 5) (q 7) dc (q 8) (q 9) (nI M.length)), (q 1, eScr (q 2)), (q 2, eJ cy 12 g2), (q 3, eCch (q 4) (nI (brg P (mX M i)).length)), (q 4, eJ cy 6 fp2), (q 8, eI cy 12 ft), (q 9, eJ cy 12 fm)] H := hP
        have hD : va_D AA [(q 0, eCli (gb (J)) (q 1) (q 3) (q 5) (q 7) dc (q 8) (q 9) (nI M.length)), (q 1, eScr (q 2)), (q 2, eJ cy 12 g2), (q 3, eCch (q 4) (nI (brg P (mX M i)).length)), (q 4, eJ cy 6 fp2), (q 8, eI cy 12 ft), (q 9, eJ cy 12 fm)] := hD
        have hw_41 : hC (brg P (mX M i)) fp2 := hw_41
        refine lv_iinc (v := nI (i + 1)) (lv' := [(2, .int (nI (i + 1))), (0, .ref (q 0)), (1, .int (nI M.length))]) hx hb dX1_takeMessage_44 hl (k := 2) rfl (nI_1 _) (by decide) rfl (fun ls hl => ?_)
        refine lv_goto (tgt := 7) hx hb dX1_takeMessage_47 (by decide) ?_
        exact ih_7 (i + 1) g2 (brg P (mX M i)) fp2 (by omega) (by omega) (by rw [hw_28]; exact scrF_step (by omega) hg) (cchF_step (by omega) hp9) hw_41 (brg_le _ _) _ _ _ (hP.sub [0, 1, 2, 3, 4, 5, 6] rfl) (hD.sub [0, 1, 2, 3, 4, 5, 6] (by decide) rfl) hS (lv_sub hl [1, 2, 0] rfl)
  exact loop_7 ((M.length - 0) + 1) 0 fs L f (Nat.lt_succ_self _) (by omega) rfl rfl hf hL _ _ _ (hP.sub [0, 1, 2, 3, 4, 5, 6] rfl) (hD.sub [0, 1, 2, 3, 4, 5, 6] (by decide) rfl) hS (lv_sub hl [2, 1, 0] rfl)
theorem iX1_beginAnew_X1 : ∀ w ∈ wsX10, w ∈ wsX1_beginAnew := by decide +kernel
set_option maxHeartbeats 4000000 in
set_option maxRecDepth 100000 in
theorem c_X1_beginAnew (l : Launch) (D : va_G) (cy : Nat → ClassId) (sz : Nat) (q : Nat → Nat) (J : Prop) (dc k no nc : Int32) (fs fo fc : Nat → Int64) (fd : Nat → Int32)  : Met l yX1_beginAnew wsX1_beginAnew ({ frames := 1, cells := 0, slots := 0, locals := 21 } : Room) (va_Pc [.ref (q 0)] (gI D (gT cy) [(q 0, eCli (gb (J)) (q 1) (q 3) (q 5) (q 7) dc (q 8) (q 9) k), (q 1, eScr (q 2)), (q 2, eJ cy 12 fs), (q 3, eCch (q 4) no), (q 4, eJ cy 6 fo), (q 5, eCch (q 6) nc), (q 6, eJ cy 6 fc), (q 7, eI cy 12 fd)] sz)) (va_Qv (fun u : (Nat → Int64) × (Nat → Int32) => ((∀ k, k < 12 → u.1 k = 0) ∧ (∀ k, k < 12 → u.2 k = nI k))) (gO D (fun u : (Nat → Int64) × (Nat → Int32) => [(q 0, eCli (gb (True)) (q 1) (q 3) (q 5) (q 7) (nI 12) (q 8) (q 9) (nI 0)), (q 1, eScr (q 2)), (q 2, eJ cy 12 u.1), (q 3, eCch (q 4) (nI 0)), (q 4, eJ cy 6 fo), (q 5, eCch (q 6) (nI 0)), (q 6, eJ cy 6 fc), (q 7, eI cy 12 u.2)]) (va_A [(q 0, eCli (gb (J)) (q 1) (q 3) (q 5) (q 7) dc (q 8) (q 9) k), (q 1, eScr (q 2)), (q 2, eJ cy 12 fs), (q 3, eCch (q 4) no), (q 4, eJ cy 6 fo), (q 5, eCch (q 6) nc), (q 6, eJ cy 6 fc), (q 7, eI cy 12 fd)] sz)) (va_A [(q 0, eCli (gb (J)) (q 1) (q 3) (q 5) (q 7) dc (q 8) (q 9) k), (q 1, eScr (q 2)), (q 2, eJ cy 12 fs), (q 3, eCch (q 4) no), (q 4, eJ cy 6 fo), (q 5, eCch (q 6) nc), (q 6, eJ cy 6 fc), (q 7, eI cy 12 fd)] sz)) 0 0 (va_A [(q 0, eCli (gb (J)) (q 1) (q 3) (q 5) (q 7) dc (q 8) (q 9) k), (q 1, eScr (q 2)), (q 2, eJ cy 12 fs), (q 3, eCch (q 4) no), (q 4, eJ cy 6 fo), (q 5, eCch (q 6) nc), (q 6, eJ cy 6 fc), (q 7, eI cy 12 fd)] sz) := by
  refine gW_v (cc := cX1_beginAnew) (maxL := 2) (by decide) rfl (Nat.le_of_ble_eq_true rfl) ?_
  intro pp ee ss mm bw mt cd QQ AA ls hfx hP hG hD hA hret hl
  have hS : va_S AA ss.heap ss.heap [] := va_S.rf
  obtain ⟨H, eH⟩ : ∃ H, H = ss.heap := ⟨_, rfl⟩
  obtain ⟨locs, eL⟩ : ∃ L : List Loc, L = [] := ⟨_, rfl⟩
  have hP : va_P D vwCl [(q 0, eCli (gb (J)) (q 1) (q 3) (q 5) (q 7) dc (q 8) (q 9) k), (q 1, eScr (q 2)), (q 2, eJ cy 12 fs), (q 3, eCch (q 4) no), (q 4, eJ cy 6 fo), (q 5, eCch (q 6) nc), (q 6, eJ cy 6 fc), (q 7, eI cy 12 fd)] H := by rw [eH]; exact hP
  have hS : va_S AA ss.heap H locs := by rw [eH, eL]; exact hS
  have goal : ∀ X Y, X = H → Y = locs → W pp l ee ({ frames := 1, cells := 0, slots := 0, locals := 21 } : Room) ss mm ([.ref (q 0)] : List Value).toArray bw mt cd X Y 0 0 QQ (F0 mm 0 ls []) → W pp l ee ({ frames := 1, cells := 0, slots := 0, locals := 21 } : Room) ss mm ([.ref (q 0)] : List Value).toArray bw mt cd ss.heap [] 0 0 QQ (F0 mm 0 ls []) := fun X Y hX hY h => by rw [hX, hY, eH, eL] at h; exact h
  refine goal H locs rfl rfl ?_
  clear goal eH eL
  obtain ⟨hx, hb, hml, hown, hts, hlocks⟩ := hfx
  have hown : ss.vm.findClass RX1 = some mm.cls := hown
  have hl : lv_has ls 2 [(0, .ref (q 0))] := hl
  refine lv_aload_n hx hb dX1_beginAnew_0 rfl (lv_at hl 0 rfl) ?_
  refine lv_iconst (v := nI 1) hx hb dX1_beginAnew_1 (by decide) ?_
  refine g_ti (y := gb (True)) ((gb_t trivial).symm) ?_
  refine va_put (D := D) (ci := 1) (v := .int (gb (True))) (ty := .boolean) (C := RX1) (T := TX1) (N := 9) hx hb hts iX1_beginAnew_X1 tyX1 tyX1_ok nmX1 hown hG.1 hP hD hS 0 rfl rfl 0 (by decide) (hts (.fieldLink RX1 9 "DirtyTiles$Client" "joined" "Z") (by decide +kernel)) (fun _ h9 => h9) rfl (by decide +kernel) (gb_nar _) (gb_fit _) (Nat.le_of_ble_eq_true rfl) dX1_beginAnew_2 (fun H locs hP hD hS => ?_)
  have hP : va_P D vwCl [(q 0, eCli (gb (True)) (q 1) (q 3) (q 5) (q 7) dc (q 8) (q 9) k), (q 1, eScr (q 2)), (q 2, eJ cy 12 fs), (q 3, eCch (q 4) no), (q 4, eJ cy 6 fo), (q 5, eCch (q 6) nc), (q 6, eJ cy 6 fc), (q 7, eI cy 12 fd)] H := hP
  have hD : va_D AA [(q 0, eCli (gb (True)) (q 1) (q 3) (q 5) (q 7) dc (q 8) (q 9) k), (q 1, eScr (q 2)), (q 2, eJ cy 12 fs), (q 3, eCch (q 4) no), (q 4, eJ cy 6 fo), (q 5, eCch (q 6) nc), (q 6, eJ cy 6 fc), (q 7, eI cy 12 fd)] := hD
  refine lv_aload_n hx hb dX1_beginAnew_5 rfl (lv_at hl 0 rfl) ?_
  refine va_get (D := D) (ci := 1) (v := .ref (q 1)) (C := RX1) (T := TX1) (N := 9) hx hb hts iX1_beginAnew_X1 hown hG.1 hP 0 rfl rfl 1 (by decide) (hts (.fieldLink RX1 18 "DirtyTiles$Client" "ownScreen" "LDirtyTiles$Screen;") (by decide +kernel)) (fun _ h9 => h9) rfl dX1_beginAnew_6 ?_
  refine gc_Wv (wn := fun u => [(q 0, eCli (gb (True)) (q 1) (q 3) (q 5) (q 7) dc (q 8) (q 9) k), (q 1, eScr (q 2)), (q 2, eJ cy 12 u), (q 3, eCch (q 4) no), (q 4, eJ cy 6 fo), (q 5, eCch (q 6) nc), (q 6, eJ cy 6 fc), (q 7, eI cy 12 fd)]) (wr := [(q 0, eCli (gb (True)) (q 1) (q 3) (q 5) (q 7) dc (q 8) (q 9) k), (q 3, eCch (q 4) no), (q 4, eJ cy 6 fo), (q 5, eCch (q 6) nc), (q 6, eJ cy 6 fc), (q 7, eI cy 12 fd)]) (va_runV (As := []) (rest := []) ⟨hx, hb, hml, hown, hts⟩ (c_X2_clear l D cy H.size (q 1) (q 2) fs) (cwV 0 hts gX1_beginAnew_X2_clear rfl rfl rfl (by decide +kernel) ⟨Nat.le_of_ble_eq_true rfl, Nat.le_of_ble_eq_true rfl⟩) (gpVI (ci := 2) (q0 := 0) hG (hP.sub [1, 2] rfl) (hD.sub [1, 2] (by decide) rfl) rfl rfl) rfl rfl hl.1 rfl (lv_room (Nat.le_of_ble_eq_true rfl)) dX1_beginAnew_9 ⟨Nat.zero_le _, Nat.zero_le _⟩) hP hD hS hA [1, 2] [0, 3, 4, 5, 6, 7] [0, 6, 7, 1, 2, 3, 4, 5] rfl rfl (by decide) (by decide) (fun _ => rfl) (by decide) (fun gs H locs hw_9 hP hD hS => ?_)
  have hP : va_P D vwCl [(q 0, eCli (gb (True)) (q 1) (q 3) (q 5) (q 7) dc (q 8) (q 9) k), (q 1, eScr (q 2)), (q 2, eJ cy 12 gs), (q 3, eCch (q 4) no), (q 4, eJ cy 6 fo), (q 5, eCch (q 6) nc), (q 6, eJ cy 6 fc), (q 7, eI cy 12 fd)] H := hP
  have hD : va_D AA [(q 0, eCli (gb (True)) (q 1) (q 3) (q 5) (q 7) dc (q 8) (q 9) k), (q 1, eScr (q 2)), (q 2, eJ cy 12 gs), (q 3, eCch (q 4) no), (q 4, eJ cy 6 fo), (q 5, eCch (q 6) nc), (q 6, eJ cy 6 fc), (q 7, eI cy 12 fd)] := hD
  have hw_9 : ∀ k, k < 12 → gs k = 0 := hw_9
  refine lv_aload_n hx hb dX1_beginAnew_12 rfl (lv_at hl 0 rfl) ?_
  refine va_get (D := D) (ci := 1) (v := .ref (q 3)) (C := RX1) (T := TX1) (N := 9) hx hb hts iX1_beginAnew_X1 hown hG.1 hP 0 rfl rfl 2 (by decide) (hts (.fieldLink RX1 25 "DirtyTiles$Client" "ownCache" "LDirtyTiles$Cache;") (by decide +kernel)) (fun _ h9 => h9) rfl dX1_beginAnew_13 ?_
  refine gc_Wv (wn := fun u => [(q 0, eCli (gb (True)) (q 1) (q 3) (q 5) (q 7) dc (q 8) (q 9) k), (q 1, eScr (q 2)), (q 2, eJ cy 12 gs), (q 3, eCch (q 4) (nI 0)), (q 4, eJ cy 6 fo), (q 5, eCch (q 6) nc), (q 6, eJ cy 6 fc), (q 7, eI cy 12 fd)]) (wr := [(q 0, eCli (gb (True)) (q 1) (q 3) (q 5) (q 7) dc (q 8) (q 9) k), (q 1, eScr (q 2)), (q 2, eJ cy 12 gs), (q 5, eCch (q 6) nc), (q 6, eJ cy 6 fc), (q 7, eI cy 12 fd)]) (va_runV (As := []) (rest := []) ⟨hx, hb, hml, hown, hts⟩ (c_X0_clear l D cy H.size (q 3) (q 4) no fo) (cwV 0 hts gX1_beginAnew_X0_clear rfl rfl rfl (by decide +kernel) ⟨Nat.le_of_ble_eq_true rfl, Nat.le_of_ble_eq_true rfl⟩) (gpVI (ci := 0) (q0 := 0) hG (hP.sub [3, 4] rfl) (hD.sub [3, 4] (by decide) rfl) rfl rfl) rfl rfl hl.1 rfl (lv_room (Nat.le_of_ble_eq_true rfl)) dX1_beginAnew_16 ⟨Nat.zero_le _, Nat.zero_le _⟩) hP hD hS hA [3, 4] [0, 1, 2, 5, 6, 7] [0, 1, 2, 6, 7, 3, 4, 5] rfl rfl (by decide) (by decide) (fun _ => rfl) (by decide) (fun _u H locs hw_16 hP hD hS => ?_)
  have hP : va_P D vwCl [(q 0, eCli (gb (True)) (q 1) (q 3) (q 5) (q 7) dc (q 8) (q 9) k), (q 1, eScr (q 2)), (q 2, eJ cy 12 gs), (q 3, eCch (q 4) (nI 0)), (q 4, eJ cy 6 fo), (q 5, eCch (q 6) nc), (q 6, eJ cy 6 fc), (q 7, eI cy 12 fd)] H := hP
  have hD : va_D AA [(q 0, eCli (gb (True)) (q 1) (q 3) (q 5) (q 7) dc (q 8) (q 9) k), (q 1, eScr (q 2)), (q 2, eJ cy 12 gs), (q 3, eCch (q 4) (nI 0)), (q 4, eJ cy 6 fo), (q 5, eCch (q 6) nc), (q 6, eJ cy 6 fc), (q 7, eI cy 12 fd)] := hD
  have hw_16 : True := hw_16
  refine lv_aload_n hx hb dX1_beginAnew_19 rfl (lv_at hl 0 rfl) ?_
  refine va_get (D := D) (ci := 1) (v := .ref (q 5)) (C := RX1) (T := TX1) (N := 9) hx hb hts iX1_beginAnew_X1 hown hG.1 hP 0 rfl rfl 3 (by decide) (hts (.fieldLink RX1 29 "DirtyTiles$Client" "serverCache" "LDirtyTiles$Cache;") (by decide +kernel)) (fun _ h9 => h9) rfl dX1_beginAnew_20 ?_
  refine gc_Wv (wn := fun u => [(q 0, eCli (gb (True)) (q 1) (q 3) (q 5) (q 7) dc (q 8) (q 9) k), (q 1, eScr (q 2)), (q 2, eJ cy 12 gs), (q 3, eCch (q 4) (nI 0)), (q 4, eJ cy 6 fo), (q 5, eCch (q 6) (nI 0)), (q 6, eJ cy 6 fc), (q 7, eI cy 12 fd)]) (wr := [(q 0, eCli (gb (True)) (q 1) (q 3) (q 5) (q 7) dc (q 8) (q 9) k), (q 1, eScr (q 2)), (q 2, eJ cy 12 gs), (q 3, eCch (q 4) (nI 0)), (q 4, eJ cy 6 fo), (q 7, eI cy 12 fd)]) (va_runV (As := []) (rest := []) ⟨hx, hb, hml, hown, hts⟩ (c_X0_clear l D cy H.size (q 5) (q 6) nc fc) (cwV 0 hts gX1_beginAnew_X0_clear rfl rfl rfl (by decide +kernel) ⟨Nat.le_of_ble_eq_true rfl, Nat.le_of_ble_eq_true rfl⟩) (gpVI (ci := 0) (q0 := 0) hG (hP.sub [5, 6] rfl) (hD.sub [5, 6] (by decide) rfl) rfl rfl) rfl rfl hl.1 rfl (lv_room (Nat.le_of_ble_eq_true rfl)) dX1_beginAnew_23 ⟨Nat.zero_le _, Nat.zero_le _⟩) hP hD hS hA [5, 6] [0, 1, 2, 3, 4, 7] [0, 1, 2, 3, 4, 6, 7, 5] rfl rfl (by decide) (by decide) (fun _ => rfl) (by decide) (fun _u H locs hw_23 hP hD hS => ?_)
  have hP : va_P D vwCl [(q 0, eCli (gb (True)) (q 1) (q 3) (q 5) (q 7) dc (q 8) (q 9) k), (q 1, eScr (q 2)), (q 2, eJ cy 12 gs), (q 3, eCch (q 4) (nI 0)), (q 4, eJ cy 6 fo), (q 5, eCch (q 6) (nI 0)), (q 6, eJ cy 6 fc), (q 7, eI cy 12 fd)] H := hP
  have hD : va_D AA [(q 0, eCli (gb (True)) (q 1) (q 3) (q 5) (q 7) dc (q 8) (q 9) k), (q 1, eScr (q 2)), (q 2, eJ cy 12 gs), (q 3, eCch (q 4) (nI 0)), (q 4, eJ cy 6 fo), (q 5, eCch (q 6) (nI 0)), (q 6, eJ cy 6 fc), (q 7, eI cy 12 fd)] := hD
  have hw_23 : True := hw_23
  refine lv_aload_n hx hb dX1_beginAnew_26 rfl (lv_at hl 0 rfl) ?_
  refine lv_iconst (v := nI 0) hx hb dX1_beginAnew_27 (by decide) ?_
  refine va_put (D := D) (ci := 1) (v := .int (nI 0)) (ty := .int) (C := RX1) (T := TX1) (N := 9) hx hb hts iX1_beginAnew_X1 tyX1 tyX1_ok nmX1 hown hG.1 hP hD hS 0 rfl rfl 8 (by decide) (hts (.fieldLink RX1 47 "DirtyTiles$Client" "messageCount" "I") (by decide +kernel)) (fun _ h9 => h9) rfl (by decide +kernel) rfl rfl (Nat.le_of_ble_eq_true rfl) dX1_beginAnew_28 (fun H locs hP hD hS => ?_)
  have hP : va_P D vwCl [(q 0, eCli (gb (True)) (q 1) (q 3) (q 5) (q 7) dc (q 8) (q 9) (nI 0)), (q 1, eScr (q 2)), (q 2, eJ cy 12 gs), (q 3, eCch (q 4) (nI 0)), (q 4, eJ cy 6 fo), (q 5, eCch (q 6) (nI 0)), (q 6, eJ cy 6 fc), (q 7, eI cy 12 fd)] H := hP
  have hD : va_D AA [(q 0, eCli (gb (True)) (q 1) (q 3) (q 5) (q 7) dc (q 8) (q 9) (nI 0)), (q 1, eScr (q 2)), (q 2, eJ cy 12 gs), (q 3, eCch (q 4) (nI 0)), (q 4, eJ cy 6 fo), (q 5, eCch (q 6) (nI 0)), (q 6, eJ cy 6 fc), (q 7, eI cy 12 fd)] := hD
  refine lv_iconst (v := nI 0) hx hb dX1_beginAnew_31 (by decide) ?_
  refine lv_istore_n (lv' := [(1, .int (nI 0)), (0, .ref (q 0))]) hx hb dX1_beginAnew_32 rfl hl (by decide) rfl (fun ls hl => ?_)
  have loop_33 : ∀ (n9 : Nat) (i : Nat) (g : Nat → Int32), 12 - i < n9 → (i ≤ 12) → (∀ k, k < i → g k = nI k) → ∀ (H : Heap) (locs : List Loc) (ls : Array Slot), va_P D vwCl [(q 0, eCli (gb (True)) (q 1) (q 3) (q 5) (q 7) dc (q 8) (q 9) (nI 0)), (q 1, eScr (q 2)), (q 2, eJ cy 12 gs), (q 3, eCch (q 4) (nI 0)), (q 4, eJ cy 6 fo), (q 5, eCch (q 6) (nI 0)), (q 6, eJ cy 6 fc), (q 7, eI cy 12 g)] H → va_D AA [(q 0, eCli (gb (True)) (q 1) (q 3) (q 5) (q 7) dc (q 8) (q 9) (nI 0)), (q 1, eScr (q 2)), (q 2, eJ cy 12 gs), (q 3, eCch (q 4) (nI 0)), (q 4, eJ cy 6 fo), (q 5, eCch (q 6) (nI 0)), (q 6, eJ cy 6 fc), (q 7, eI cy 12 g)] → va_S AA ss.heap H locs → lv_has ls 2 [(0, .ref (q 0)), (1, .int (nI i))] → W pp l ee ({ frames := 1, cells := 0, slots := 0, locals := 21 } : Room) ss mm ([.ref (q 0)] : List Value).toArray bw mt cd H locs 0 0 QQ (F0 mm 33 ls []) := by
    intro n9
    induction n9 with
    | zero => intro i g h9; exact absurd h9 (Nat.not_lt_zero _)
    | succ n9 ih_33 =>
      intro i g hm_33 hi hg H locs ls hP hD hS hl
      refine lv_iload_n hx hb dX1_beginAnew_33 rfl (lv_at hl 1 rfl) ?_
      refine lv_bipush (v := nI 12) hx hb dX1_beginAnew_34 (by decide) ?_
      refine lv_icmp_ge (tgt := 52) hx hb dX1_beginAnew_36 (by decide) (fun c_36 => ?_) (fun c_36 => ?_)
      · skip
        have c_36 : 12 ≤ i := (nI_leI (a := 12) (b := i) (by omega) (by omega)).mp c_36
        refine lv_aload_n hx hb dX1_beginAnew_52 rfl (lv_at hl 0 rfl) ?_
        refine lv_bipush (v := nI 12) hx hb dX1_beginAnew_53 (by decide) ?_
        refine va_put (D := D) (ci := 1) (v := .int (nI 12)) (ty := .int) (C := RX1) (T := TX1) (N := 9) hx hb hts iX1_beginAnew_X1 tyX1 tyX1_ok nmX1 hown hG.1 hP hD hS 0 rfl rfl 5 (by decide) (hts (.fieldLink RX1 36 "DirtyTiles$Client" "dirtyCount" "I") (by decide +kernel)) (fun _ h9 => h9) rfl (by decide +kernel) rfl rfl (Nat.le_of_ble_eq_true rfl) dX1_beginAnew_55 (fun H locs hP hD hS => ?_)
        have hP : va_P D vwCl [(q 0, eCli (gb (True)) (q 1) (q 3) (q 5) (q 7) (nI 12) (q 8) (q 9) (nI 0)), (q 1, eScr (q 2)), (q 2, eJ cy 12 gs), (q 3, eCch (q 4) (nI 0)), (q 4, eJ cy 6 fo), (q 5, eCch (q 6) (nI 0)), (q 6, eJ cy 6 fc), (q 7, eI cy 12 g)] H := hP
        have hD : va_D AA [(q 0, eCli (gb (True)) (q 1) (q 3) (q 5) (q 7) (nI 12) (q 8) (q 9) (nI 0)), (q 1, eScr (q 2)), (q 2, eJ cy 12 gs), (q 3, eCch (q 4) (nI 0)), (q 4, eJ cy 6 fo), (q 5, eCch (q 6) (nI 0)), (q 6, eJ cy 6 fc), (q 7, eI cy 12 g)] := hD
        exact hret _ _ _ _ ⟨gs, g⟩ dX1_beginAnew_58 (⟨hw_9, fun k hk => hg k (by omega)⟩) (hP.sub [0, 1, 2, 3, 4, 5, 6, 7] rfl) (hD.sub [0, 1, 2, 3, 4, 5, 6, 7] (by decide) rfl) hS
      · skip
        have c_36 : ¬ 12 ≤ i := fun z => c_36 ((nI_leI (a := 12) (b := i) (by omega) (by omega)).mpr z)
        refine lv_aload_n hx hb dX1_beginAnew_39 rfl (lv_at hl 0 rfl) ?_
        refine va_get (D := D) (ci := 1) (v := .ref (q 7)) (C := RX1) (T := TX1) (N := 9) hx hb hts iX1_beginAnew_X1 hown hG.1 hP 0 rfl rfl 4 (by decide) (hts (.fieldLink RX1 32 "DirtyTiles$Client" "dirtyTiles" "[I") (by decide +kernel)) (fun _ h9 => h9) rfl dX1_beginAnew_40 ?_
        refine lv_iload_n hx hb dX1_beginAnew_43 rfl (lv_at hl 1 rfl) ?_
        refine lv_iload_n hx hb dX1_beginAnew_44 rfl (lv_at hl 1 rfl) ?_
        refine g_iast hx hb hG hP hD hS 7 0 rfl rfl (k := i) (by omega) (by decide) dX1_beginAnew_45 (fun H locs hP hD hS => ?_)
        have hP : va_P D vwCl [(q 0, eCli (gb (True)) (q 1) (q 3) (q 5) (q 7) dc (q 8) (q 9) (nI 0)), (q 1, eScr (q 2)), (q 2, eJ cy 12 gs), (q 3, eCch (q 4) (nI 0)), (q 4, eJ cy 6 fo), (q 5, eCch (q 6) (nI 0)), (q 6, eJ cy 6 fc), (q 7, eI cy 12 (upd g i (nI i)))] H := hP
        have hD : va_D AA [(q 0, eCli (gb (True)) (q 1) (q 3) (q 5) (q 7) dc (q 8) (q 9) (nI 0)), (q 1, eScr (q 2)), (q 2, eJ cy 12 gs), (q 3, eCch (q 4) (nI 0)), (q 4, eJ cy 6 fo), (q 5, eCch (q 6) (nI 0)), (q 6, eJ cy 6 fc), (q 7, eI cy 12 (upd g i (nI i)))] := hD
        refine lv_iinc (v := nI (i + 1)) (lv' := [(1, .int (nI (i + 1))), (0, .ref (q 0))]) hx hb dX1_beginAnew_46 hl (k := 1) rfl (nI_1 _) (by decide) rfl (fun ls hl => ?_)
        refine lv_goto (tgt := 33) hx hb dX1_beginAnew_49 (by decide) ?_
        exact ih_33 (i + 1) (upd g i (nI i)) (by omega) (by omega) (g_covI hg rfl) _ _ _ (hP.sub [0, 1, 2, 3, 4, 5, 6, 7] rfl) (hD.sub [0, 1, 2, 3, 4, 5, 6, 7] (by decide) rfl) hS (lv_sub hl [1, 0] rfl)
  exact loop_33 ((12 - 0) + 1) 0 fd (Nat.lt_succ_self _) (by omega) (fun k hk => absurd hk (Nat.not_lt_zero k)) _ _ _ (hP.sub [0, 1, 2, 3, 4, 5, 6, 7] rfl) (hD.sub [0, 1, 2, 3, 4, 5, 6, 7] (by decide) rfl) hS (lv_sub hl [1, 0] rfl)
