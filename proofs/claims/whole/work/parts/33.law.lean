/-! the law's loop, and the law from its entry -/
theorem law_cmp {i L : Nat} (hi : i ≤ 3584) (hL : L ≤ 3584) : (Int32.ofNat L - nI 7 < nI i) ↔ L < i + 7 := by
  have e1 : (Int32.ofNat L).toInt = L := nI_toInt (n := L) (by omega)
  have e2 : (nI 7).toInt = 7 := nI_toInt (n := 7) (by omega)
  have e3 : (nI i).toInt = i := nI_toInt (n := i) (by omega)
  have e4 : (Int32.ofNat L - nI 7).toInt = (L : Int) - 7 := by
    rw [fb_subI (by rw [e1, e2]; omega) (by rw [e1, e2]; omega), e1, e2]
  rw [Int32.lt_iff_toInt_lt, e4, e3]
  omega
set_option maxHeartbeats 4000000 in
set_option maxRecDepth 100000 in
theorem law_loop {pp : Program} {ee : Env} {ss : State} {mm : MethodId} {bw : List Frame} {mt : Method} {cd : Code} (l : Launch) (hst : l.stackTraces = false) {b L : Nat} {xs : Nat → Int32} {D : va_G} {cy : Nat → ClassId} {sa : Nat → Nat} (C0 : LX pp ss mm mt cd b L xs D cy sa) {a q r M : Nat → Nat} {o : Nat} :
    ∀ (n i : Nat), i ≤ L → L + 1 ≤ i + n → ∀ (H : Heap) (locs : List Loc) (ls : Array Slot), Inv D cy a q r M o (fun q : Nat => ss.heap.size ≤ q) H → va_S (fun q : Nat => ss.heap.size ≤ q) ss.heap H locs → lv_has ls 7 [(4, .int (nI i)), (3, .ref o), (2, .ref (M 0)), (1, .ref (a 0)), (0, .ref b)] → W pp l ee room_1 ss mm #[Value.ref b] bw mt cd H locs (100 + i) (6000 + 6 * i) (lw_Z bw #[Value.ref b] ss) (F0 mm 23 ls []) := by
  obtain ⟨⟨hx, hb, hr0, hml, hown, hts, hX, hbl, hlocks, hgv⟩, hG, hE0, hN9, hL⟩ := id C0
  have hb0 := hb
  have hb : cd.code = cL_law := hb
  have hbA : ¬ (fun q : Nat => ss.heap.size ≤ q) b := Nat.not_le.mpr hbl
  intro n
  induction n with
  | zero => intro i h1 h2; exact absurd h2 (by omega)
  | succ n ih =>
    intro i hi hn H locs ls hI hS hl
    refine lv_iload hx hb dL_law_23 (lv_at hl 0 rfl) ?_
    refine lv_aload_n hx hb dL_law_25 rfl (lv_at hl 4 rfl) ?_
    refine va_slen hx hb hX hbl hbA hS dL_law_26 ?_
    refine lv_bipush (v := nI 7) hx hb dL_law_27 (by decide) ?_
    refine lv_isub hx hb dL_law_29 ?_
    refine lv_icmp_gt (tgt := 1228) hx hb dL_law_30 (by decide) (fun c_30 => ?_) (fun c_30 => ?_)
    · refine lv_iconst (v := 1) hx hb dL_law_1228 (by decide) ?_
      refine va_forget (fun q hq => hS.2.2 q hq) ?_
      refine W.widen (k := 601024) (n := 7293034) (by omega) (by omega) ?_
      exact lw_ret hx hb0 hr0 hlocks dL_law_1229
    · have hle : i + 7 ≤ L := Nat.not_lt.mp (fun z => c_30 ((law_cmp (by omega) hL).mpr z))
      have kk : ∀ (H : Heap) (locs : List Loc) (ls : Array Slot), Inv D cy a q r M o (fun q : Nat => ss.heap.size ≤ q) H → va_S (fun q : Nat => ss.heap.size ≤ q) ss.heap H locs → lv_has ls 7 [(4, .int (nI i)), (3, .ref o), (2, .ref (M 0)), (1, .ref (a 0)), (0, .ref b)] → W pp l ee room_1 ss mm #[Value.ref b] bw mt cd H locs (100 + i + 1) (6000 + 6 * i + 6) (lw_Z bw #[Value.ref b] ss) (F0 mm 1222 ls []) := by
        intro H locs ls hI hS hl
        refine lv_iinc (v := nI (i + 7)) (lv' := [(4, .int (nI (i + 7))), (3, .ref o), (2, .ref (M 0)), (1, .ref (a 0)), (0, .ref b)]) hx hb dL_law_1222 hl (k := 0) rfl (nI_add _ 7) (by decide) rfl (fun ls hl => ?_)
        refine lv_goto (tgt := 23) hx hb dL_law_1225 (by decide) ?_
        refine W.widen (k := 100 + (i + 7)) (n := 6000 + 6 * (i + 7)) (by omega) (by omega) ?_
        exact ih (i + 7) hle (by omega) H locs ls hI hS hl
      have hc : 100 + i + 1 ≤ 601024 ∧ 6000 + 6 * i + 6 ≤ 7293034 := by omega
      refine lv_aload_n hx hb dL_law_33 rfl (lv_at hl 4 rfl) ?_
      refine lv_iload hx hb dL_law_34 (lv_at hl 0 rfl) ?_
      refine g_sld hx hb hX hbl hbA hS (k := i) (v := xs i) (by omega) hL rfl dL_law_36 ?_
      refine lv_bipush (v := nI 31) hx hb dL_law_37 (by decide) ?_
      refine lv_iand hx hb dL_law_39 ?_
      generalize xs i &&& nI 31 = y
      rcases (show y.toInt = 0 ∨ y.toInt = 1 ∨ y.toInt = 2 ∨ y.toInt = 3 ∨ y.toInt = 4 ∨ y.toInt = 5 ∨ y.toInt = 6 ∨ y.toInt = 7 ∨ y.toInt = 8 ∨ y.toInt = 9 ∨ y.toInt = 10 ∨ y.toInt = 11 ∨ y.toInt = 12 ∨ y.toInt = 13 ∨ y.toInt = 14 ∨ y.toInt = 15 ∨ y.toInt = 16 ∨ (y.toInt < 0 ∨ 16 < y.toInt) by omega) with h | h | h | h | h | h | h | h | h | h | h | h | h | h | h | h | h | h
      · refine lv_tableIn (tgt := 124) (off := 84) hx hb dL_law_40 (by rw [h]; decide) (by rw [h]; decide) (by rw [h]; rfl) (by decide) ?_
        exact lw_fill l hst C0 i hle hc hI hS hl kk
      · refine lv_tableIn (tgt := 228) (off := 188) hx hb dL_law_40 (by rw [h]; decide) (by rw [h]; decide) (by rw [h]; rfl) (by decide) ?_
        exact lw_copy l hst C0 i hle hc hI hS hl kk
      · refine lv_tableIn (tgt := 346) (off := 306) hx hb dL_law_40 (by rw [h]; decide) (by rw [h]; decide) (by rw [h]; rfl) (by decide) ?_
        exact lw_colour l hst C0 i hle hc hI hS hl kk
      · refine lv_tableIn (tgt := 414) (off := 374) hx hb dL_law_40 (by rw [h]; decide) (by rw [h]; decide) (by rw [h]; rfl) (by decide) ?_
        exact lw_colours l hst C0 i hle hc hI hS hl kk
      · refine lv_tableIn (tgt := 470) (off := 430) hx hb dL_law_40 (by rw [h]; decide) (by rw [h]; decide) (by rw [h]; rfl) (by decide) ?_
        exact lw_runs l hst C0 i hle hc hI hS hl kk
      · refine lv_tableIn (tgt := 526) (off := 486) hx hb dL_law_40 (by rw [h]; decide) (by rw [h]; decide) (by rw [h]; rfl) (by decide) ?_
        exact lw_way l hst C0 i hle hc hI hS hl kk
      · refine lv_tableIn (tgt := 594) (off := 554) hx hb dL_law_40 (by rw [h]; decide) (by rw [h]; decide) (by rw [h]; rfl) (by decide) ?_
        exact lw_join l hst C0 i hle hc hI hS hl kk
      · refine lv_tableIn (tgt := 650) (off := 610) hx hb dL_law_40 (by rw [h]; decide) (by rw [h]; decide) (by rw [h]; rfl) (by decide) ?_
        exact lw_ask l hst C0 i hle hc hI hS hl kk
      · refine lv_tableIn (tgt := 718) (off := 678) hx hb dL_law_40 (by rw [h]; decide) (by rw [h]; decide) (by rw [h]; rfl) (by decide) ?_
        exact lw_answer l hst C0 i hle hc hI hS hl kk
      · refine lv_tableIn (tgt := 774) (off := 734) hx hb dL_law_40 (by rw [h]; decide) (by rw [h]; decide) (by rw [h]; rfl) (by decide) ?_
        exact lw_shown l hst C0 i hle hc hI hS hl kk
      · refine lv_tableIn (tgt := 854) (off := 814) hx hb dL_law_40 (by rw [h]; decide) (by rw [h]; decide) (by rw [h]; rfl) (by decide) ?_
        exact lw_unlike l hst C0 i hle hc hI hS hl kk
      · refine lv_tableIn (tgt := 910) (off := 870) hx hb dL_law_40 (by rw [h]; decide) (by rw [h]; decide) (by rw [h]; rfl) (by decide) ?_
        exact lw_dirty l hst C0 i hle hc hI hS hl kk
      · refine lv_tableIn (tgt := 966) (off := 926) hx hb dL_law_40 (by rw [h]; decide) (by rw [h]; decide) (by rw [h]; rfl) (by decide) ?_
        exact lw_dirtyAt l hst C0 i hle hc hI hS hl kk
      · refine lv_tableIn (tgt := 1034) (off := 994) hx hb dL_law_40 (by rw [h]; decide) (by rw [h]; decide) (by rw [h]; rfl) (by decide) ?_
        exact lw_cached l hst C0 i hle hc hI hS hl kk
      · refine lv_tableIn (tgt := 1090) (off := 1050) hx hb dL_law_40 (by rw [h]; decide) (by rw [h]; decide) (by rw [h]; rfl) (by decide) ?_
        exact lw_isAlike l hst C0 i hle hc hI hS hl kk
      · refine lv_tableIn (tgt := 1153) (off := 1113) hx hb dL_law_40 (by rw [h]; decide) (by rw [h]; decide) (by rw [h]; rfl) (by decide) ?_
        exact lw_written l hst C0 i hle hc hI hS hl kk
      · refine lv_tableIn (tgt := 1209) (off := 1169) hx hb dL_law_40 (by rw [h]; decide) (by rw [h]; decide) (by rw [h]; rfl) (by decide) ?_
        exact lw_units l hst C0 i hle hc hI hS hl kk
      · refine lv_tableOut (tgt := 1222) hx hb dL_law_40 h (by decide) ?_
        refine W.widen (k := 100 + i + 1) (n := 6000 + 6 * i + 6) (by omega) (by omega) ?_
        exact kk H locs ls hI hS hl
theorem arr_of {s : State} {args : Array Value} {ty : FieldType} (h : (Cond.arrayClass ty).before args s = true) : ∃ c : ClassId, ArrOfT s c ty ∧ s.vm.findClass ("[" ++ ty.toString) = some c := by
  obtain ⟨c, k, comp, h1, h2, h3⟩ := Cond.arrayClass_spec h
  exact ⟨c, fun N z => ⟨(fun k h => by cases h), k, h2, comp, h3⟩, h1⟩
theorem arr_ao {s : State} {C : String} (h : va_AO C s) : ∃ c : ClassId, ArrOfT s c (.object C) ∧ va_RA s c (.object C) := by
  obtain ⟨comp, c, k, h1, h2, h3, h4, h5⟩ := Cond.arrayOver_spec h
  exact ⟨c, fun N z => ⟨(fun k h => by cases h), k, h3, comp, h4⟩, k, comp, h3, h4, h1, h5⟩
theorem gpSIa {s : State} {H : Heap} {As : List Value} {wc : va_W} {A0 : Nat → Prop} {D : va_G} {tys : List (ClassId × FieldType)} (hO : va_AO "DirtyTiles$Client" s) (hG : gG D tys s) (hP : va_P D vwCl wc H) (hD : va_D A0 wc) : PreS s H (va_Pc As (gIa D tys wc H.size)) As :=
  ⟨gIa_blind, fun U hU hW => ⟨rfl, ⟨by rw [hU], by rw [hU]; exact hP, hG.warm hW, hD.weaken (fun _ _ _ _ => trivial)⟩, va_AO.moved hW.alike hO⟩⟩
def at0 (h : Nat) (f : Nat → Nat) : Nat → Nat
  | 0 => h
  | k + 1 => f (k + 1)
def cyF (c0 c1 c2 c3 : ClassId) : Nat → ClassId
  | 0 => c0
  | 1 => c1
  | 2 => c2
  | _ => c3
def sa3 (a b c : Nat) : Nat → Nat
  | 0 => a
  | 1 => b
  | _ => c
theorem rel_0 : Rel (fun _ => 0) (fun _ => False) (fun _ => []) (fun _ _ => 0) (fun _ => []) (fun _ => []) (fun _ => []) (fun _ _ => 0) (fun _ _ => 0) (fun _ _ => 0) (fun _ _ => 0) (fun _ _ => 0) (fun _ => 0) (fun _ => 0) (fun _ => 0) (fun _ => 0) (fun _ => 0) (fun _ => 0) (fun _ => 0) (fun _ => 0) (fun _ => 0) (fun _ => 0) (fun _ => 0) (fun _ => 0) := by
  have z : (0 : Int32) = nI 0 := rfl
  exact ⟨hS_0 (fun _ _ => rfl) (fun _ _ => z), fun c hc => (gb_f id).symm, fun c hc => ⟨fun i h => absurd h (Nat.not_lt_zero i), z⟩, fun c hc => ⟨List.nodup_nil, fun d h => absurd h List.not_mem_nil⟩, fun c hc => hSo_0 (fun _ _ => rfl) (fun _ _ => z), fun c hc => ⟨hCo_nil, z, Nat.zero_le _⟩, fun c hc => ⟨hCo_nil, z, Nat.zero_le _⟩, fun c hc => ⟨hMo_nil, z, Nat.zero_le _, okM_nil⟩, fun c hc i h => absurd h (Nat.not_lt_zero i), fun c hc => hC_nil, fun c hc => hC_nil, fun c hc => hM_nil⟩
set_option maxHeartbeats 4000000 in
set_option maxRecDepth 100000 in
theorem law_start {pp : Program} {ee : Env} {ss : State} {mm : MethodId} {bw : List Frame} {mt : Method} {cd : Code} (l : Launch) (hst : l.stackTraces = false) {b L : Nat} {xs : Nat → Int32} {D : va_G} {cy : Nat → ClassId} {sa : Nat → Nat} (C0 : LX pp ss mm mt cd b L xs D cy sa) (hAO : va_AO "DirtyTiles$Client" ss) : W pp l ee room_1 ss mm #[Value.ref b] bw mt cd ss.heap [] 0 0 (lw_Z bw #[Value.ref b] ss) (entryFrame mm ([Value.ref b] : List Value).toArray 7) := by
  obtain ⟨⟨hx, hb, hr0, hml, hown, hts, hX, hbl, hlocks, hgv⟩, hG, hE0, hN9, hL⟩ := id C0
  have hts : ∀ w ∈ wsL_law, w.before #[Value.ref b] ss = true := fun w h => hts w (wsL_law_in w h)
  have hown : ss.vm.findClass RL = some mm.cls := hown
  have hb : cd.code = cL_law := hb
  have hA : ∀ q, ss.heap.size ≤ q → (fun q : Nat => ss.heap.size ≤ q) q := fun _ h => h
  have hS : va_S (fun q : Nat => ss.heap.size ≤ q) ss.heap ss.heap [] := va_S.rf
  have hP : va_P D vwCl [] ss.heap := fun k q h => by simp at h
  have hD : va_D (fun q : Nat => ss.heap.size ≤ q) [] := ⟨fun i j p q h => by simp at h, fun k q h => by simp at h⟩
  have hl := lv_entry ([.ref b]) (n := 7) (Nat.le_of_ble_eq_true rfl)
  rw [lg_entry_eq]
  generalize (lg_sl ([.ref b]) ++ List.replicate (7 - (lg_sl ([.ref b])).length) Slot.unset).toArray = ls at hl ⊢
  have hl : lv_has ls 7 [(0, .ref b)] := hl
  refine va_new (ci := 3) (fs := [.null, .null, .null, .null, .int 0]) (C := RX3) (T := TX3) (N := 5) hx hb hts inlX3 tyX3 tyX3_ok hown (hts (.classLink RL 8 RX3) (by decide +kernel)) (hts (.instantiable RX3 5) (by decide +kernel)) (hts (.initialized RX3) (by decide +kernel)) hG.1 hP hD hS hA rfl (fun j hj => by rcases (show j = 0 ∨ j = 1 ∨ j = 2 ∨ j = 3 ∨ j = 4 by omega) with rfl | rfl | rfl | rfl | rfl <;> rfl) (Nat.le_of_ble_eq_true rfl) (Nat.le_of_ble_eq_true rfl) dL_law_0 (fun w0 H hP hD hS => ?_)
  have hP : va_P D vwCl [(w0, .inr (3, [.null, .null, .null, .null, .int 0]))] H := hP
  have hD : va_D (fun q : Nat => ss.heap.size ≤ q) [(w0, .inr (3, [.null, .null, .null, .null, .int 0]))] := hD
  refine lv_dup hx hb dL_law_3 rfl ?_
  refine gc_Cv (wr := []) (va_runI (As := []) (rest := [.ref w0]) ⟨hx, hb, hml, hown, hts⟩ (c_X3_init l D cy H.size w0) (cwI 0 hts gL_law_X3_init rfl rfl rfl (hts (.initialized RX3) (by decide +kernel)) (hts (.methodLink RL 69 yX3_init) (by decide +kernel)) (hts (.instanceMethod yX3_init) (by decide +kernel)) rfl (by decide +kernel) ⟨Nat.le_of_ble_eq_true rfl, Nat.le_of_ble_eq_true rfl⟩) (gpSIa hAO hG (hP.sub [0] rfl) (hD.sub [0] (by decide) rfl)) rfl rfl hl.1 rfl (lv_room (Nat.le_of_ble_eq_true rfl)) dL_law_4 ⟨Nat.le_of_ble_eq_true rfl, Nat.le_of_ble_eq_true rfl⟩) hP hD hS hA [0] [] rfl rfl (by decide) (by decide) (fun u4 H locs hw_4 hP hD hS => ?_)
  have hP : va_P D vwCl [(w0, eTop (u4.1 1) (u4.1 3) (u4.1 5) (u4.1 6) (nI 0)), (u4.1 1, eScr (u4.1 2)), (u4.1 2, eJ cy 12 (fun _ => 0)), (u4.1 3, eScr (u4.1 4)), (u4.1 4, eJ cy 12 (fun _ => 0)), (u4.1 5, eQ cy 2 (va_up (va_up (fun _ => none) 0 (some (u4.2.1 0))) 1 (some (u4.2.2 0)))), (u4.1 6, eI cy 5 (fun _ => 0)), (u4.2.1 0, eCli (gb (False)) (u4.2.1 1) (u4.2.1 3) (u4.2.1 5) (u4.2.1 7) (nI 0) (u4.2.1 8) (u4.2.1 9) (nI 0)), (u4.2.1 1, eScr (u4.2.1 2)), (u4.2.1 2, eJ cy 12 (fun _ => 0)), (u4.2.1 3, eCch (u4.2.1 4) (nI 0)), (u4.2.1 4, eJ cy 6 (fun _ => 0)), (u4.2.1 5, eCch (u4.2.1 6) (nI 0)), (u4.2.1 6, eJ cy 6 (fun _ => 0)), (u4.2.1 7, eI cy 12 (fun _ => 0)), (u4.2.1 8, eI cy 12 (fun _ => 0)), (u4.2.1 9, eJ cy 12 (fun _ => 0)), (u4.2.2 0, eCli (gb (False)) (u4.2.2 1) (u4.2.2 3) (u4.2.2 5) (u4.2.2 7) (nI 0) (u4.2.2 8) (u4.2.2 9) (nI 0)), (u4.2.2 1, eScr (u4.2.2 2)), (u4.2.2 2, eJ cy 12 (fun _ => 0)), (u4.2.2 3, eCch (u4.2.2 4) (nI 0)), (u4.2.2 4, eJ cy 6 (fun _ => 0)), (u4.2.2 5, eCch (u4.2.2 6) (nI 0)), (u4.2.2 6, eJ cy 6 (fun _ => 0)), (u4.2.2 7, eI cy 12 (fun _ => 0)), (u4.2.2 8, eI cy 12 (fun _ => 0)), (u4.2.2 9, eJ cy 12 (fun _ => 0))] H := hP
  have hD : va_D (fun q : Nat => ss.heap.size ≤ q) [(w0, eTop (u4.1 1) (u4.1 3) (u4.1 5) (u4.1 6) (nI 0)), (u4.1 1, eScr (u4.1 2)), (u4.1 2, eJ cy 12 (fun _ => 0)), (u4.1 3, eScr (u4.1 4)), (u4.1 4, eJ cy 12 (fun _ => 0)), (u4.1 5, eQ cy 2 (va_up (va_up (fun _ => none) 0 (some (u4.2.1 0))) 1 (some (u4.2.2 0)))), (u4.1 6, eI cy 5 (fun _ => 0)), (u4.2.1 0, eCli (gb (False)) (u4.2.1 1) (u4.2.1 3) (u4.2.1 5) (u4.2.1 7) (nI 0) (u4.2.1 8) (u4.2.1 9) (nI 0)), (u4.2.1 1, eScr (u4.2.1 2)), (u4.2.1 2, eJ cy 12 (fun _ => 0)), (u4.2.1 3, eCch (u4.2.1 4) (nI 0)), (u4.2.1 4, eJ cy 6 (fun _ => 0)), (u4.2.1 5, eCch (u4.2.1 6) (nI 0)), (u4.2.1 6, eJ cy 6 (fun _ => 0)), (u4.2.1 7, eI cy 12 (fun _ => 0)), (u4.2.1 8, eI cy 12 (fun _ => 0)), (u4.2.1 9, eJ cy 12 (fun _ => 0)), (u4.2.2 0, eCli (gb (False)) (u4.2.2 1) (u4.2.2 3) (u4.2.2 5) (u4.2.2 7) (nI 0) (u4.2.2 8) (u4.2.2 9) (nI 0)), (u4.2.2 1, eScr (u4.2.2 2)), (u4.2.2 2, eJ cy 12 (fun _ => 0)), (u4.2.2 3, eCch (u4.2.2 4) (nI 0)), (u4.2.2 4, eJ cy 6 (fun _ => 0)), (u4.2.2 5, eCch (u4.2.2 6) (nI 0)), (u4.2.2 6, eJ cy 6 (fun _ => 0)), (u4.2.2 7, eI cy 12 (fun _ => 0)), (u4.2.2 8, eI cy 12 (fun _ => 0)), (u4.2.2 9, eJ cy 12 (fun _ => 0))] := hD
  refine lv_astore_n (lv' := [(1, .ref w0), (0, .ref b)]) hx hb dL_law_7 rfl hl (by decide) rfl (fun ls hl => ?_)
  refine va_new (ci := 4) (fs := [.int 0, .null, .null, .null, .null, .null, .null, .null, .null, .null, .null, .null, .null, .null, .null, .int 0, .null]) (C := RX4) (T := TX4) (N := 17) hx hb hts inlX4 tyX4 tyX4_ok hown (hts (.classLink RL 70 RX4) (by decide +kernel)) (hts (.instantiable RX4 17) (by decide +kernel)) (hts (.initialized RX4) (by decide +kernel)) hG.1 hP hD hS hA rfl (fun j hj => by rcases (show j = 0 ∨ j = 1 ∨ j = 2 ∨ j = 3 ∨ j = 4 ∨ j = 5 ∨ j = 6 ∨ j = 7 ∨ j = 8 ∨ j = 9 ∨ j = 10 ∨ j = 11 ∨ j = 12 ∨ j = 13 ∨ j = 14 ∨ j = 15 ∨ j = 16 by omega) with rfl | rfl | rfl | rfl | rfl | rfl | rfl | rfl | rfl | rfl | rfl | rfl | rfl | rfl | rfl | rfl | rfl <;> rfl) (Nat.le_of_ble_eq_true rfl) (Nat.le_of_ble_eq_true rfl) dL_law_8 (fun w8 H hP hD hS => ?_)
  have hP : va_P D vwCl [(w0, eTop (u4.1 1) (u4.1 3) (u4.1 5) (u4.1 6) (nI 0)), (u4.1 1, eScr (u4.1 2)), (u4.1 2, eJ cy 12 (fun _ => 0)), (u4.1 3, eScr (u4.1 4)), (u4.1 4, eJ cy 12 (fun _ => 0)), (u4.1 5, eQ cy 2 (va_up (va_up (fun _ => none) 0 (some (u4.2.1 0))) 1 (some (u4.2.2 0)))), (u4.1 6, eI cy 5 (fun _ => 0)), (u4.2.1 0, eCli (gb (False)) (u4.2.1 1) (u4.2.1 3) (u4.2.1 5) (u4.2.1 7) (nI 0) (u4.2.1 8) (u4.2.1 9) (nI 0)), (u4.2.1 1, eScr (u4.2.1 2)), (u4.2.1 2, eJ cy 12 (fun _ => 0)), (u4.2.1 3, eCch (u4.2.1 4) (nI 0)), (u4.2.1 4, eJ cy 6 (fun _ => 0)), (u4.2.1 5, eCch (u4.2.1 6) (nI 0)), (u4.2.1 6, eJ cy 6 (fun _ => 0)), (u4.2.1 7, eI cy 12 (fun _ => 0)), (u4.2.1 8, eI cy 12 (fun _ => 0)), (u4.2.1 9, eJ cy 12 (fun _ => 0)), (u4.2.2 0, eCli (gb (False)) (u4.2.2 1) (u4.2.2 3) (u4.2.2 5) (u4.2.2 7) (nI 0) (u4.2.2 8) (u4.2.2 9) (nI 0)), (u4.2.2 1, eScr (u4.2.2 2)), (u4.2.2 2, eJ cy 12 (fun _ => 0)), (u4.2.2 3, eCch (u4.2.2 4) (nI 0)), (u4.2.2 4, eJ cy 6 (fun _ => 0)), (u4.2.2 5, eCch (u4.2.2 6) (nI 0)), (u4.2.2 6, eJ cy 6 (fun _ => 0)), (u4.2.2 7, eI cy 12 (fun _ => 0)), (u4.2.2 8, eI cy 12 (fun _ => 0)), (u4.2.2 9, eJ cy 12 (fun _ => 0)), (w8, .inr (4, [.int 0, .null, .null, .null, .null, .null, .null, .null, .null, .null, .null, .null, .null, .null, .null, .int 0, .null]))] H := hP
  have hD : va_D (fun q : Nat => ss.heap.size ≤ q) [(w0, eTop (u4.1 1) (u4.1 3) (u4.1 5) (u4.1 6) (nI 0)), (u4.1 1, eScr (u4.1 2)), (u4.1 2, eJ cy 12 (fun _ => 0)), (u4.1 3, eScr (u4.1 4)), (u4.1 4, eJ cy 12 (fun _ => 0)), (u4.1 5, eQ cy 2 (va_up (va_up (fun _ => none) 0 (some (u4.2.1 0))) 1 (some (u4.2.2 0)))), (u4.1 6, eI cy 5 (fun _ => 0)), (u4.2.1 0, eCli (gb (False)) (u4.2.1 1) (u4.2.1 3) (u4.2.1 5) (u4.2.1 7) (nI 0) (u4.2.1 8) (u4.2.1 9) (nI 0)), (u4.2.1 1, eScr (u4.2.1 2)), (u4.2.1 2, eJ cy 12 (fun _ => 0)), (u4.2.1 3, eCch (u4.2.1 4) (nI 0)), (u4.2.1 4, eJ cy 6 (fun _ => 0)), (u4.2.1 5, eCch (u4.2.1 6) (nI 0)), (u4.2.1 6, eJ cy 6 (fun _ => 0)), (u4.2.1 7, eI cy 12 (fun _ => 0)), (u4.2.1 8, eI cy 12 (fun _ => 0)), (u4.2.1 9, eJ cy 12 (fun _ => 0)), (u4.2.2 0, eCli (gb (False)) (u4.2.2 1) (u4.2.2 3) (u4.2.2 5) (u4.2.2 7) (nI 0) (u4.2.2 8) (u4.2.2 9) (nI 0)), (u4.2.2 1, eScr (u4.2.2 2)), (u4.2.2 2, eJ cy 12 (fun _ => 0)), (u4.2.2 3, eCch (u4.2.2 4) (nI 0)), (u4.2.2 4, eJ cy 6 (fun _ => 0)), (u4.2.2 5, eCch (u4.2.2 6) (nI 0)), (u4.2.2 6, eJ cy 6 (fun _ => 0)), (u4.2.2 7, eI cy 12 (fun _ => 0)), (u4.2.2 8, eI cy 12 (fun _ => 0)), (u4.2.2 9, eJ cy 12 (fun _ => 0)), (w8, .inr (4, [.int 0, .null, .null, .null, .null, .null, .null, .null, .null, .null, .null, .null, .null, .null, .null, .int 0, .null]))] := hD
  refine lv_dup hx hb dL_law_11 rfl ?_
  refine gc_Cv (wr := [(w0, eTop (u4.1 1) (u4.1 3) (u4.1 5) (u4.1 6) (nI 0)), (u4.1 1, eScr (u4.1 2)), (u4.1 2, eJ cy 12 (fun _ => 0)), (u4.1 3, eScr (u4.1 4)), (u4.1 4, eJ cy 12 (fun _ => 0)), (u4.1 5, eQ cy 2 (va_up (va_up (fun _ => none) 0 (some (u4.2.1 0))) 1 (some (u4.2.2 0)))), (u4.1 6, eI cy 5 (fun _ => 0)), (u4.2.1 0, eCli (gb (False)) (u4.2.1 1) (u4.2.1 3) (u4.2.1 5) (u4.2.1 7) (nI 0) (u4.2.1 8) (u4.2.1 9) (nI 0)), (u4.2.1 1, eScr (u4.2.1 2)), (u4.2.1 2, eJ cy 12 (fun _ => 0)), (u4.2.1 3, eCch (u4.2.1 4) (nI 0)), (u4.2.1 4, eJ cy 6 (fun _ => 0)), (u4.2.1 5, eCch (u4.2.1 6) (nI 0)), (u4.2.1 6, eJ cy 6 (fun _ => 0)), (u4.2.1 7, eI cy 12 (fun _ => 0)), (u4.2.1 8, eI cy 12 (fun _ => 0)), (u4.2.1 9, eJ cy 12 (fun _ => 0)), (u4.2.2 0, eCli (gb (False)) (u4.2.2 1) (u4.2.2 3) (u4.2.2 5) (u4.2.2 7) (nI 0) (u4.2.2 8) (u4.2.2 9) (nI 0)), (u4.2.2 1, eScr (u4.2.2 2)), (u4.2.2 2, eJ cy 12 (fun _ => 0)), (u4.2.2 3, eCch (u4.2.2 4) (nI 0)), (u4.2.2 4, eJ cy 6 (fun _ => 0)), (u4.2.2 5, eCch (u4.2.2 6) (nI 0)), (u4.2.2 6, eJ cy 6 (fun _ => 0)), (u4.2.2 7, eI cy 12 (fun _ => 0)), (u4.2.2 8, eI cy 12 (fun _ => 0)), (u4.2.2 9, eJ cy 12 (fun _ => 0))]) (va_runI (As := []) (rest := [.ref w8]) ⟨hx, hb, hml, hown, hts⟩ (c_X4_init l D cy H.size w8) (cwI 0 hts gL_law_X4_init rfl rfl rfl (hts (.initialized RX4) (by decide +kernel)) (hts (.methodLink RL 72 yX4_init) (by decide +kernel)) (hts (.instanceMethod yX4_init) (by decide +kernel)) rfl (by decide +kernel) ⟨Nat.le_of_ble_eq_true rfl, Nat.le_of_ble_eq_true rfl⟩) (gpSI hG (hP.sub [27] rfl) (hD.sub [27] (by decide) rfl)) rfl rfl hl.1 rfl (lv_room (Nat.le_of_ble_eq_true rfl)) dL_law_12 ⟨Nat.le_of_ble_eq_true rfl, Nat.le_of_ble_eq_true rfl⟩) hP hD hS hA [27] [0, 1, 2, 3, 4, 5, 6, 7, 8, 9, 10, 11, 12, 13, 14, 15, 16, 17, 18, 19, 20, 21, 22, 23, 24, 25, 26] rfl rfl (by decide) (by decide) (fun u12 H locs hw_12 hP hD hS => ?_)
  have hP : va_P D vwCl [(w0, eTop (u4.1 1) (u4.1 3) (u4.1 5) (u4.1 6) (nI 0)), (u4.1 1, eScr (u4.1 2)), (u4.1 2, eJ cy 12 (fun _ => 0)), (u4.1 3, eScr (u4.1 4)), (u4.1 4, eJ cy 12 (fun _ => 0)), (u4.1 5, eQ cy 2 (va_up (va_up (fun _ => none) 0 (some (u4.2.1 0))) 1 (some (u4.2.2 0)))), (u4.1 6, eI cy 5 (fun _ => 0)), (u4.2.1 0, eCli (gb (False)) (u4.2.1 1) (u4.2.1 3) (u4.2.1 5) (u4.2.1 7) (nI 0) (u4.2.1 8) (u4.2.1 9) (nI 0)), (u4.2.1 1, eScr (u4.2.1 2)), (u4.2.1 2, eJ cy 12 (fun _ => 0)), (u4.2.1 3, eCch (u4.2.1 4) (nI 0)), (u4.2.1 4, eJ cy 6 (fun _ => 0)), (u4.2.1 5, eCch (u4.2.1 6) (nI 0)), (u4.2.1 6, eJ cy 6 (fun _ => 0)), (u4.2.1 7, eI cy 12 (fun _ => 0)), (u4.2.1 8, eI cy 12 (fun _ => 0)), (u4.2.1 9, eJ cy 12 (fun _ => 0)), (u4.2.2 0, eCli (gb (False)) (u4.2.2 1) (u4.2.2 3) (u4.2.2 5) (u4.2.2 7) (nI 0) (u4.2.2 8) (u4.2.2 9) (nI 0)), (u4.2.2 1, eScr (u4.2.2 2)), (u4.2.2 2, eJ cy 12 (fun _ => 0)), (u4.2.2 3, eCch (u4.2.2 4) (nI 0)), (u4.2.2 4, eJ cy 6 (fun _ => 0)), (u4.2.2 5, eCch (u4.2.2 6) (nI 0)), (u4.2.2 6, eJ cy 6 (fun _ => 0)), (u4.2.2 7, eI cy 12 (fun _ => 0)), (u4.2.2 8, eI cy 12 (fun _ => 0)), (u4.2.2 9, eJ cy 12 (fun _ => 0)), (w8, eMod (nI 0) u12 (nI 0)), (u12 1, eI cy 192 (fun _ => 0)), (u12 2, eI cy 192 (fun _ => 0)), (u12 3, eZ cy 2 (fun _ => 0)), (u12 4, eI cy 384 (fun _ => 0)), (u12 5, eI cy 224 (fun _ => 0)), (u12 6, eI cy 2 (fun _ => 0)), (u12 7, eI cy 224 (fun _ => 0)), (u12 8, eI cy 2 (fun _ => 0)), (u12 9, eI cy 24 (fun _ => 0)), (u12 10, eI cy 2 (fun _ => 0)), (u12 11, eI cy 24 (fun _ => 0)), (u12 12, eI cy 384 (fun _ => 0)), (u12 13, eI cy 2 (fun _ => 0)), (u12 14, eI cy 5 (fun _ => 0)), (u12 16, eI cy 16 (fun _ => 0))] H := hP
  have hD : va_D (fun q : Nat => ss.heap.size ≤ q) [(w0, eTop (u4.1 1) (u4.1 3) (u4.1 5) (u4.1 6) (nI 0)), (u4.1 1, eScr (u4.1 2)), (u4.1 2, eJ cy 12 (fun _ => 0)), (u4.1 3, eScr (u4.1 4)), (u4.1 4, eJ cy 12 (fun _ => 0)), (u4.1 5, eQ cy 2 (va_up (va_up (fun _ => none) 0 (some (u4.2.1 0))) 1 (some (u4.2.2 0)))), (u4.1 6, eI cy 5 (fun _ => 0)), (u4.2.1 0, eCli (gb (False)) (u4.2.1 1) (u4.2.1 3) (u4.2.1 5) (u4.2.1 7) (nI 0) (u4.2.1 8) (u4.2.1 9) (nI 0)), (u4.2.1 1, eScr (u4.2.1 2)), (u4.2.1 2, eJ cy 12 (fun _ => 0)), (u4.2.1 3, eCch (u4.2.1 4) (nI 0)), (u4.2.1 4, eJ cy 6 (fun _ => 0)), (u4.2.1 5, eCch (u4.2.1 6) (nI 0)), (u4.2.1 6, eJ cy 6 (fun _ => 0)), (u4.2.1 7, eI cy 12 (fun _ => 0)), (u4.2.1 8, eI cy 12 (fun _ => 0)), (u4.2.1 9, eJ cy 12 (fun _ => 0)), (u4.2.2 0, eCli (gb (False)) (u4.2.2 1) (u4.2.2 3) (u4.2.2 5) (u4.2.2 7) (nI 0) (u4.2.2 8) (u4.2.2 9) (nI 0)), (u4.2.2 1, eScr (u4.2.2 2)), (u4.2.2 2, eJ cy 12 (fun _ => 0)), (u4.2.2 3, eCch (u4.2.2 4) (nI 0)), (u4.2.2 4, eJ cy 6 (fun _ => 0)), (u4.2.2 5, eCch (u4.2.2 6) (nI 0)), (u4.2.2 6, eJ cy 6 (fun _ => 0)), (u4.2.2 7, eI cy 12 (fun _ => 0)), (u4.2.2 8, eI cy 12 (fun _ => 0)), (u4.2.2 9, eJ cy 12 (fun _ => 0)), (w8, eMod (nI 0) u12 (nI 0)), (u12 1, eI cy 192 (fun _ => 0)), (u12 2, eI cy 192 (fun _ => 0)), (u12 3, eZ cy 2 (fun _ => 0)), (u12 4, eI cy 384 (fun _ => 0)), (u12 5, eI cy 224 (fun _ => 0)), (u12 6, eI cy 2 (fun _ => 0)), (u12 7, eI cy 224 (fun _ => 0)), (u12 8, eI cy 2 (fun _ => 0)), (u12 9, eI cy 24 (fun _ => 0)), (u12 10, eI cy 2 (fun _ => 0)), (u12 11, eI cy 24 (fun _ => 0)), (u12 12, eI cy 384 (fun _ => 0)), (u12 13, eI cy 2 (fun _ => 0)), (u12 14, eI cy 5 (fun _ => 0)), (u12 16, eI cy 16 (fun _ => 0))] := hD
  refine lv_astore_n (lv' := [(2, .ref w8), (1, .ref w0), (0, .ref b)]) hx hb dL_law_15 rfl hl (by decide) rfl (fun ls hl => ?_)
  refine lv_iconst (v := nI 1) hx hb dL_law_16 (by decide) ?_
  refine g_newJ hx hb (hts (.arrayClass .long) (by decide +kernel)) hG hP hD hS hA 1 rfl (n := 1) (by decide) (by decide) (Nat.le_of_ble_eq_true rfl) (Nat.le_of_ble_eq_true rfl) dL_law_17 (fun w17 H hP hD hS => ?_)
  have hP : va_P D vwCl [(w0, eTop (u4.1 1) (u4.1 3) (u4.1 5) (u4.1 6) (nI 0)), (u4.1 1, eScr (u4.1 2)), (u4.1 2, eJ cy 12 (fun _ => 0)), (u4.1 3, eScr (u4.1 4)), (u4.1 4, eJ cy 12 (fun _ => 0)), (u4.1 5, eQ cy 2 (va_up (va_up (fun _ => none) 0 (some (u4.2.1 0))) 1 (some (u4.2.2 0)))), (u4.1 6, eI cy 5 (fun _ => 0)), (u4.2.1 0, eCli (gb (False)) (u4.2.1 1) (u4.2.1 3) (u4.2.1 5) (u4.2.1 7) (nI 0) (u4.2.1 8) (u4.2.1 9) (nI 0)), (u4.2.1 1, eScr (u4.2.1 2)), (u4.2.1 2, eJ cy 12 (fun _ => 0)), (u4.2.1 3, eCch (u4.2.1 4) (nI 0)), (u4.2.1 4, eJ cy 6 (fun _ => 0)), (u4.2.1 5, eCch (u4.2.1 6) (nI 0)), (u4.2.1 6, eJ cy 6 (fun _ => 0)), (u4.2.1 7, eI cy 12 (fun _ => 0)), (u4.2.1 8, eI cy 12 (fun _ => 0)), (u4.2.1 9, eJ cy 12 (fun _ => 0)), (u4.2.2 0, eCli (gb (False)) (u4.2.2 1) (u4.2.2 3) (u4.2.2 5) (u4.2.2 7) (nI 0) (u4.2.2 8) (u4.2.2 9) (nI 0)), (u4.2.2 1, eScr (u4.2.2 2)), (u4.2.2 2, eJ cy 12 (fun _ => 0)), (u4.2.2 3, eCch (u4.2.2 4) (nI 0)), (u4.2.2 4, eJ cy 6 (fun _ => 0)), (u4.2.2 5, eCch (u4.2.2 6) (nI 0)), (u4.2.2 6, eJ cy 6 (fun _ => 0)), (u4.2.2 7, eI cy 12 (fun _ => 0)), (u4.2.2 8, eI cy 12 (fun _ => 0)), (u4.2.2 9, eJ cy 12 (fun _ => 0)), (w8, eMod (nI 0) u12 (nI 0)), (u12 1, eI cy 192 (fun _ => 0)), (u12 2, eI cy 192 (fun _ => 0)), (u12 3, eZ cy 2 (fun _ => 0)), (u12 4, eI cy 384 (fun _ => 0)), (u12 5, eI cy 224 (fun _ => 0)), (u12 6, eI cy 2 (fun _ => 0)), (u12 7, eI cy 224 (fun _ => 0)), (u12 8, eI cy 2 (fun _ => 0)), (u12 9, eI cy 24 (fun _ => 0)), (u12 10, eI cy 2 (fun _ => 0)), (u12 11, eI cy 24 (fun _ => 0)), (u12 12, eI cy 384 (fun _ => 0)), (u12 13, eI cy 2 (fun _ => 0)), (u12 14, eI cy 5 (fun _ => 0)), (u12 16, eI cy 16 (fun _ => 0)), (w17, eJ cy 1 (fun _ => 0))] H := hP
  have hD : va_D (fun q : Nat => ss.heap.size ≤ q) [(w0, eTop (u4.1 1) (u4.1 3) (u4.1 5) (u4.1 6) (nI 0)), (u4.1 1, eScr (u4.1 2)), (u4.1 2, eJ cy 12 (fun _ => 0)), (u4.1 3, eScr (u4.1 4)), (u4.1 4, eJ cy 12 (fun _ => 0)), (u4.1 5, eQ cy 2 (va_up (va_up (fun _ => none) 0 (some (u4.2.1 0))) 1 (some (u4.2.2 0)))), (u4.1 6, eI cy 5 (fun _ => 0)), (u4.2.1 0, eCli (gb (False)) (u4.2.1 1) (u4.2.1 3) (u4.2.1 5) (u4.2.1 7) (nI 0) (u4.2.1 8) (u4.2.1 9) (nI 0)), (u4.2.1 1, eScr (u4.2.1 2)), (u4.2.1 2, eJ cy 12 (fun _ => 0)), (u4.2.1 3, eCch (u4.2.1 4) (nI 0)), (u4.2.1 4, eJ cy 6 (fun _ => 0)), (u4.2.1 5, eCch (u4.2.1 6) (nI 0)), (u4.2.1 6, eJ cy 6 (fun _ => 0)), (u4.2.1 7, eI cy 12 (fun _ => 0)), (u4.2.1 8, eI cy 12 (fun _ => 0)), (u4.2.1 9, eJ cy 12 (fun _ => 0)), (u4.2.2 0, eCli (gb (False)) (u4.2.2 1) (u4.2.2 3) (u4.2.2 5) (u4.2.2 7) (nI 0) (u4.2.2 8) (u4.2.2 9) (nI 0)), (u4.2.2 1, eScr (u4.2.2 2)), (u4.2.2 2, eJ cy 12 (fun _ => 0)), (u4.2.2 3, eCch (u4.2.2 4) (nI 0)), (u4.2.2 4, eJ cy 6 (fun _ => 0)), (u4.2.2 5, eCch (u4.2.2 6) (nI 0)), (u4.2.2 6, eJ cy 6 (fun _ => 0)), (u4.2.2 7, eI cy 12 (fun _ => 0)), (u4.2.2 8, eI cy 12 (fun _ => 0)), (u4.2.2 9, eJ cy 12 (fun _ => 0)), (w8, eMod (nI 0) u12 (nI 0)), (u12 1, eI cy 192 (fun _ => 0)), (u12 2, eI cy 192 (fun _ => 0)), (u12 3, eZ cy 2 (fun _ => 0)), (u12 4, eI cy 384 (fun _ => 0)), (u12 5, eI cy 224 (fun _ => 0)), (u12 6, eI cy 2 (fun _ => 0)), (u12 7, eI cy 224 (fun _ => 0)), (u12 8, eI cy 2 (fun _ => 0)), (u12 9, eI cy 24 (fun _ => 0)), (u12 10, eI cy 2 (fun _ => 0)), (u12 11, eI cy 24 (fun _ => 0)), (u12 12, eI cy 384 (fun _ => 0)), (u12 13, eI cy 2 (fun _ => 0)), (u12 14, eI cy 5 (fun _ => 0)), (u12 16, eI cy 16 (fun _ => 0)), (w17, eJ cy 1 (fun _ => 0))] := hD
  refine lv_astore_n (lv' := [(3, .ref w17), (2, .ref w8), (1, .ref w0), (0, .ref b)]) hx hb dL_law_19 rfl hl (by decide) rfl (fun ls hl => ?_)
  refine lv_iconst (v := nI 0) hx hb dL_law_20 (by decide) ?_
  refine lv_istore (lv' := [(4, .int (nI 0)), (3, .ref w17), (2, .ref w8), (1, .ref w0), (0, .ref b)]) hx hb dL_law_21 hl (by decide) rfl (fun ls hl => ?_)
  refine W.widen (k := 100) (n := 6000) (Nat.le_of_ble_eq_true rfl) (Nat.le_of_ble_eq_true rfl) ?_
  exact law_loop l hst C0 (a := at0 w0 u4.1) (q := u4.2.1) (r := u4.2.2) (M := at0 w8 u12) (o := w17) (L + 1) 0 (Nat.zero_le L) (by omega) H locs ls ⟨nI 0, nI 0, fun _ => 0, fun _ => 0, fun _ => 0, fun _ => False, fun _ => [], fun _ _ => 0, fun _ => [], fun _ => [], fun _ => [], fun _ _ => 0, fun _ _ => 0, fun _ _ => 0, fun _ _ => 0, fun _ _ => 0, fun _ => 0, fun _ => 0, fun _ => 0, fun _ => 0, fun _ => 0, fun _ => 0, fun _ => 0, fun _ => 0, fun _ => 0, fun _ => 0, fun _ => 0, fun _ => 0, fun _ => 0, fun _ => 0, fun _ => 0, hP, hD, rel_0⟩ hS (lv_sub hl [0, 1, 2, 3, 4] rfl)
set_option maxHeartbeats 4000000 in
set_option maxRecDepth 100000 in
theorem whole_start {p : Program} {e : Env} {s : State} {m : MethodId} {below : List Frame} {meth : Method} {c : Code} (l : Launch) (hflags : l.flags = flags0) {b L : Nat} {xs : Nat → Int32} (hL : L ≤ 3584) (C0 : lw_At p s m meth c b L xs) : W p l e room_1 s m #[Value.ref b] below meth c s.heap [] 0 0 (lw_Z below #[Value.ref b] s) (entryFrame m ([Value.ref b] : List Value).toArray 7) := by
  obtain ⟨hx, hb, hr, hml, hown, hts, hX, hbl, hlocks, hgv⟩ := id C0
  have hst : l.stackTraces = false := by unfold Launch.stackTraces; rw [hflags]; decide +kernel
  have hs := flat_of_before _ hgv
  obtain ⟨c0, i0, k0⟩ := u_known (C := RX0) (T := TX0) (N := 2) (n := 2) hts inX0 (hts (.instantiable RX0 2) (by decide +kernel))
  obtain ⟨c1, i1, k1⟩ := u_known (C := RX1) (T := TX1) (N := 9) (n := 9) hts inX1 (hts (.instantiable RX1 9) (by decide +kernel))
  obtain ⟨c2, i2, k2⟩ := u_known (C := RX2) (T := TX2) (N := 1) (n := 1) hts inX2 (hts (.instantiable RX2 1) (by decide +kernel))
  obtain ⟨c3, i3, k3⟩ := u_known (C := RX3) (T := TX3) (N := 5) (n := 5) hts inX3 (hts (.instantiable RX3 5) (by decide +kernel))
  obtain ⟨c4, i4, k4⟩ := u_known (C := RX4) (T := TX4) (N := 17) (n := 17) hts inX4 (hts (.instantiable RX4 17) (by decide +kernel))
  obtain ⟨dC, dI, hKc⟩ : ∃ (dC : Nat → ClassId) (dI : Nat → Nat → Nat), ∀ (k : Nat) (q : vw_C), vwCl[k]? = some q → u_Kn s q.1 q.2.1 q.2.2 (dC k) (dI k) := by
    refine ⟨fun k => if k = 0 then c0 else if k = 1 then c1 else if k = 2 then c2 else if k = 3 then c3 else c4, fun k => if k = 0 then i0 else if k = 1 then i1 else if k = 2 then i2 else if k = 3 then i3 else i4, ?_⟩
    intro k q hq
    match k, hq with
    | 0, hq => cases hq; exact k0
    | 1, hq => cases hq; exact k1
    | 2, hq => cases hq; exact k2
    | 3, hq => cases hq; exact k3
    | 4, hq => cases hq; exact k4
    | k + 5, hq => simp [vwCl] at hq
  have hAO : va_AO "DirtyTiles$Client" s := va_AO.of (hts (.arrayOver (.object "DirtyTiles$Client")) (by decide +kernel))
  obtain ⟨y0, a0, b0⟩ := arr_of (hts (.arrayClass .int) (by decide +kernel))
  obtain ⟨y1, a1, b1⟩ := arr_of (hts (.arrayClass .long) (by decide +kernel))
  obtain ⟨y2, a2, b2⟩ := arr_of (hts (.arrayClass .boolean) (by decide +kernel))
  obtain ⟨y3, a3, b3⟩ := arr_ao hAO
  have hK : va_K (dC, dI) vwCl (gT (cyF y0 y1 y2 y3)) s := by
    refine ⟨hKc, fun k q hq => ?_⟩
    match k, hq with
    | 0, hq => cases hq; exact ⟨a0, b0⟩
    | 1, hq => cases hq; exact ⟨a1, b1⟩
    | 2, hq => cases hq; exact ⟨a2, b2⟩
    | 3, hq => cases hq; exact ⟨a3, b3⟩
    | k + 4, hq => simp [gT] at hq
  have hG : gG (dC, dI) (gT (cyF y0 y1 y2 y3)) s := ⟨hK, va_tabs rfl rfl (hts (.methodLinkNest RX2 22 yX3_cellAt RX3) (by decide +kernel)), va_tabs rfl rfl (hts (.methodLinkNest RX1 17 yX2_init RX3) (by decide +kernel)), va_tabs rfl rfl (hts (.methodLinkNest RX1 24 yX0_init RX3) (by decide +kernel)), va_tabs rfl rfl (hts (.methodLinkNest RX3 9 yX2_init RX3) (by decide +kernel)), va_tabs rfl rfl (hts (.methodLinkNest RX3 33 yX1_init RX3) (by decide +kernel))⟩
  have z1 : (Cond.isRef (.static Bundle.tN "UNASSIGNED_STACK" Bundle.steD)).before #[Value.ref b] s = true := hs _ (by decide +kernel)
  have z2 : (Cond.isRef (.static Bundle.tN "SUPPRESSED_SENTINEL" Bundle.listD)).before #[Value.ref b] s = true := hs _ (by decide +kernel)
  have x0 : (Cond.exactly (.string RX3 147) "java/lang/String").before #[Value.ref b] s = true := hs _ (by decide +kernel)
  have x1 : (Cond.exactly (.string RX3 152) "java/lang/String").before #[Value.ref b] s = true := hs _ (by decide +kernel)
  have x2 : (Cond.exactly (.string RX3 124) "java/lang/String").before #[Value.ref b] s = true := hs _ (by decide +kernel)
  obtain ⟨s0, _, _, _, e0, -⟩ := Cond.exactly_spec x0
  obtain ⟨s1, _, _, _, e1, -⟩ := Cond.exactly_spec x1
  obtain ⟨s2, _, _, _, e2, -⟩ := Cond.exactly_spec x2
  have hno : ∀ a : Nat, a < s.heap.size → ¬ s.heap.size ≤ a := fun a h => Nat.not_le.mpr h
  have hE : gE (sa3 s0 s1 s2) (fun q => s.heap.size ≤ q) s s.heap := ⟨vx_Zqof (hts (.laysStatic Bundle.tN "UNASSIGNED_STACK" Bundle.steD) (by decide +kernel)) (hts (.initialized Bundle.tN) (by decide +kernel)) z1 hno, vx_Zqof (hts (.laysStatic Bundle.tN "SUPPRESSED_SENTINEL" Bundle.listD) (by decide +kernel)) (hts (.initialized Bundle.tN) (by decide +kernel)) z2 hno,
    vk_R.of (hts (.stringRef RX3 147 "a parameter is out of range") (by decide +kernel)) e0, vk_R.of (hts (.stringRef RX3 152 "the client is not in the state for this") (by decide +kernel)) e1, vk_R.of (hts (.stringRef RX3 124 "no such dirty tile") (by decide +kernel)) e2,
    va_tabs rfl rfl (hts (.castable xIA xIA) (by decide +kernel)), va_tabs rfl rfl (hts (.castable xIS xIS) (by decide +kernel)), va_tabs rfl rfl (hts (.castable xIO xIO) (by decide +kernel)), va_tabs rfl rfl (hts (.declares (Bundle.initS "java/lang/RuntimeException")) (by decide +kernel)), va_tabs rfl rfl (hts (.declares (Bundle.initS "java/lang/Exception")) (by decide +kernel)), va_tabs rfl rfl (hts (.declares (Bundle.initS Bundle.tN)) (by decide +kernel))⟩
  have n1 : (Cond.not (.castable xIS xIA)).before #[Value.ref b] s = true := hs _ (by decide +kernel)
  have n2 : (Cond.not (.castable xIO xIA)).before #[Value.ref b] s = true := hs _ (by decide +kernel)
  have n3 : (Cond.not (.castable xIO xIS)).before #[Value.ref b] s = true := hs _ (by decide +kernel)
  exact law_start l hst ⟨C0, hG, hE, ⟨va_Nc.of n1, va_Nc.of n2, va_Nc.of n3⟩, hL⟩ hAO

set_option maxHeartbeats 4000000 in
theorem lw_walk (l : Launch) (hflags : l.flags = flags0) (b : Addr) (xs : List Int32) : MetFree l x (headSpec (Jvm.Cond.code x code maxLocals ret :: tables_1) room_1) (lw_P b xs) (fun _ _ _ _ _ => True) lw_Q := by
  refine MetFree.of_bodyS (code := code) (maxLocals := maxLocals) (ret := ret) (by decide) ?_ ?_
  · intro args s m h hn
    obtain ⟨meth, c, h1, h2, h3, h4, h5, h6, -, -⟩ := Cond.code_spec hn (atoms_spec (ws := Jvm.Cond.code x code maxLocals ret :: tables_1) h _ List.mem_cons_self)
    exact ⟨meth, c, h1, h2, h3, h4, h5, h6⟩
  · intro p e s m args below meth c s₁ B hml0 hP _
    obtain ⟨rfl, hx, hbd, hgv⟩ := hP
    obtain ⟨scr, harrAt, hlist, hof, hsmall⟩ := hx
    obtain ⟨hcb, hkn, -, -⟩ := State.arrayAt?_spec harrAt
    have hown : s.vm.findClass R_law = some m.cls := findClass_of_methodNamed B.named
    have hts0 : ∀ c ∈ (Jvm.Cond.code x code maxLocals ret :: tables_1), c.before #[Value.ref b] s = true := atoms_spec (ws := Jvm.Cond.code x code maxLocals ret :: tables_1) B.pre
    have hts : ∀ w ∈ lw_tbl, w.before #[Value.ref b] s = true := k2_hts_sels lw_privs (fun w hw => hts0 w (List.mem_cons_of_mem _ hw)) lw_privs_ok
    have hml : c.maxLocals = 7 := B.maxLocals_eq (hts0 _ List.mem_cons_self)
    have X₀ : Stand p l e room_1 s m #[Value.ref b] below meth c s₁ [] 0 0 := Stand.of_body B
    have hh0 : s₁.heap = s.heap := by rw [B.state]; rfl
    have hsz : scr.slots.size = xs.length := by rw [← Array.length_toList, hlist, List.length_map]
    have hval : ∀ j : Nat, j < xs.length → scr.slots[j]? = some (.int (xs.getD j 0)) := fun j hj => by
      rw [← Array.getElem?_toList, hlist]
      simp [hj]
    have hbl : b < s.heap.size := (Array.getElem?_eq_some_iff.mp hcb).1
    have hX : va_X b xs.length (fun j => xs.getD j 0) s s.heap := ⟨scr, hcb, hof, hkn, hsz, hval⟩
    have K : W p l e room_1 s m #[Value.ref b] below meth c s₁.heap [] 0 0 (lw_Z below #[Value.ref b] s) (entryFrame m ([Value.ref b] : List Value).toArray 7) := by
      rw [hh0]
      exact whole_start l hflags hbd ⟨B.exec, B.bytes, B.returns, hml, hown, hts, hX, hbl, B.notSynchronized, hgv⟩
    obtain ⟨t, a1, o, b1, b2, b3⟩ := K s₁ rfl X₀
    exact ⟨t, o, a1, b1, b2, b3⟩
theorem lw_pre_spec {args : Array Value} {s : State} (h : (Jvm.Cond.and given_1 narrow_1).before args s = true) (hr : rest_1_c.before args s = true) : ∃ (b : Addr) (xs : List Int32), lw_P b xs args s := by
  have hs := flat_of_before _ h
  have hq := flat_of_before _ hr
  have hc : (Cond.count 1).before args s = true := hs _ (by decide +kernel)
  have harr : (Cond.arrayOf (.arg 0) .int).before args s = true := hs _ (by decide +kernel)
  have hle : (Cond.le (.length (.arg 0)) (.int 3584)).before args s = true := hs _ (by decide +kernel)
  have hlen : (Cond.isInt (.length (.arg 0))).before args s = true := hq _ (by decide +kernel)
  have hall : (Cond.all (.arg 0) (.isInt (.elem (.arg 0) (.index 0)))).before args s = true := hq _ (by decide +kernel)
  obtain ⟨b, xs, hb, hx⟩ := State.ints_of_pre rfl harr hlen hall
  have hsm : xs.length < 2 ^ 31 := hx.choose_spec.2.2.2
  have hev : (Term.length (.arg 0)).eval args s none [] s = some (.int xs.length.toInt32) := hx.length_eval hb
  have hv := Cond.le_ints hev (show (Term.int 3584).eval args s none [] s = some (.int 3584) from rfl)
  have hd : xs.length.toInt32 ≤ 3584 := by
    simpa [Cond.before, Cond.holds, hv] using hle
  have hN : xs.length ≤ 3584 := (Int32.ofNat_le_ofNat hsm (by decide)).mp (show Int32.ofNat xs.length ≤ Int32.ofNat 3584 from hd)
  exact ⟨b, xs, Cond.one_arg hc (show args[0]? = some (.ref b) from hb), hx, hN, h⟩
theorem lw_comes (l : Launch) (hflags : l.flags = flags0) : Comes l x (Jvm.Cond.code x code maxLocals ret :: tables_1) room_1 (fun tb e args s => Calls_1 tb e args s ∧ rest_1 tb e args s ∧ Pre_1 tb e args s)
    (fun _ _ args s o t => lw_Q args s o t) := by
  intro p e ha hc hk s m args below hf hfit hheap happ hpre
  obtain ⟨b, xs, hP⟩ := lw_pre_spec hpre.2.2 hpre.2.1
  obtain ⟨k, o, h1, h2, h3, hQ⟩ := lw_walk l hflags b xs p e ha hc hk s m args below hf ((Spec.applies_iff_loose hf).mp happ).1 hP trivial
  exact ⟨k, o, h1, h2, h3, hQ⟩
theorem lw_frame {s t : State} {o : Outcome} {args : Array Value} (h : Framed s o t [] 601024 7293034) :
    Framed s o t (fieldLocs frame_1_writes args s ++ arrayLocs frame_1_arrays args s ++ staticLocs frame_1_statics s) 601024 7293034 := h
theorem lw_limb (L : Cond) (hL : ∀ (args : Array Value) (s t : State), L.after args s (.returned (some (.int 1))) t = true) :
    ArmFor flags0 classFile x code maxLocals ret World_1 tables_1 room_1 Calls_1 rest_1 Pre_1
      (fun tb e a s o t => postC L tb e a s o t ∧ Framed s o t (fieldLocs frame_1_writes a s ++ arrayLocs frame_1_arrays a s ++ staticLocs frame_1_statics s) 601024 7293034) := by
  intro l hflags _ _ p e ha hc hk s m args below hf hfit hheap happ hpre
  obtain ⟨k, o, h1, h2, h3, rfl, hF⟩ := lw_comes l hflags p e ha hc hk s m args below hf hfit hheap happ hpre
  exact ⟨k, _, h1, h2, h3, hL args s _, lw_frame hF⟩
theorem i_vc : Claimed_1_1 ∧ Claimed_1_2 := ⟨lw_limb limb_1_1 (fun args s t => by simp [limb_1_1, Cond.after, Cond.holds, Cond.value]), lw_limb limb_1_2 (fun args s t => Cond.after_iff.mpr (by
  first | (rw [show limb_1_2 = Cond.eq .result (.int 1) from rfl, Cond.eq_ints (x := 1) (y := 1) rfl rfl]; simp; done) | (simp [limb_1_2, Cond.value, Term.eval]; done)))⟩
