/-! THE CLAIM OUT OF ONE WALK OF THE LAW'S BODY. Your part is whole_start (and what it stands on); all else here is the same for every law, but numbers. -/
def R_law : String := "DirtyTilesLaw"
def lw_P (b : Addr) (xs : List Int32) (args : Array Value) (s : State) : Prop := args = #[.ref b] ∧ s.IntsAt b xs ∧ xs.length ≤ 260 ∧ (Jvm.Cond.and given_1 narrow_1).before args s = true
def lw_Q (_ : Array Value) (s : State) (o : Outcome) (t : State) : Prop := o = .returned (some (.int 1)) ∧ Framed s o t [] 654851 7137217
def lw_Z (below : List Frame) (a : Array Value) (s : State) : State → Prop := fun t => ∃ o, t.status = .running ∧ Ended t below o ∧ lw_Q a s o t
/-- the law's own end, with 1 on the stack, nothing written that was there before, its room as the claim has it -/
theorem lw_ret {p : Program} {l : Launch} {e : Env} {s : State} {m : MethodId} {below : List Frame} {meth : Method} {c : Code} {b : Nat} (hx : p.tables.exec = Jvm.exec) (hb : c.code = code) (hr : meth.sig.returnType = ret) (hlocks : meth.locks = false) {pc : Nat} {H : Heap} {ls : Array Slot} (hdg : decode code pc = .ok (.ireturn, 1)) : W p l e room_1 s m #[Value.ref b] below meth c H [] 654851 7137217 (lw_Z below #[Value.ref b] s) (F0 m pc ls [.int 1]) := by
  intro T hT X
  obtain ⟨fs, hret, hrun, hended, hW, hframe⟩ := X.leave (v := some (.int 1)) (hlocks := hlocks) (fun h => by rw [hr] at h; cases h)
  have hmeth' : T.vm.method? m = some meth := X.method'
  refine ⟨T.setFrames fs, ?_, .returned (some (.int 1)), hrun, hended, rfl, ⟨_, rfl⟩, hW, hframe⟩
  jvm_step X.here [X.here.top, hx, hb, hdg, hmeth', hr, ret, narrow_b1]
  (try refine ⟨rfl, ?_⟩); (try refine ⟨rfl, ?_⟩)
  first | (intro acts; rw [hret _ acts rfl rfl rfl]) | rw [hret _ _ rfl rfl rfl]
  exact Steps.refl _
/-- what holds at the law's entry: the machine, the code, the tables' words (any of lw_tbl by 'hts w (by decide +kernel)'), the script of L ints xs at the cell b, what the Statement gives of the start (any of its parts by flat_of_before) -/
def lw_At (p : Program) (s : State) (m : MethodId) (meth : Method) (c : Code) (b L : Nat) (xs : Nat → Int32) : Prop :=
  p.tables.exec = Jvm.exec ∧ c.code = code ∧ meth.sig.returnType = ret ∧ c.maxLocals = 6 ∧ s.vm.findClass R_law = some m.cls ∧ (∀ w ∈ lw_tbl, w.before #[Value.ref b] s = true) ∧ va_X b L xs s s.heap ∧ b < s.heap.size ∧ meth.locks = false ∧ (Jvm.Cond.and given_1 narrow_1).before #[Value.ref b] s = true
def LX (p : Program) (s : State) (m : MethodId) (meth : Method) (c : Code) (k0 L : Nat) (xs : Nat → Int32) (D : va_G) (cy : Nat → ClassId) (sa : Nat → Nat) : Prop := lw_At p s m meth c k0 L xs ∧ gG D (gT cy) s ∧ gE sa (fun q => s.heap.size ≤ q) s s.heap ∧ gN s ∧ L ≤ 260
/-- both objects, alike, behind i steps -/
def Two (D : va_G) (cy : Nat → ClassId) (a q r b c d : Nat → Nat) (i : Nat) (A : Nat → Prop) (H : Heap) : Prop := ∃ (x : ob_T) (y : ob_K) (z : ob_T) (w : ob_K) (n m : Nat), va_P D vwCl (ob_w cy a q r x y ++ ob_w cy b c d z w) H ∧ va_D A (ob_w cy a q r x y ++ ob_w cy b c d z w) ∧ ob_k x y ∧ ob_k z w ∧ inv x n ∧ inv z m ∧ eqs x z ∧ n ≤ 600 * i ∧ m ≤ 600 * i
set_option maxHeartbeats 4000000 in
set_option maxRecDepth 100000 in
/-- behind what was done to both: the looks at them, to the loop's head -/
theorem law_79 {pp : Program} {ee : Env} {ss : State} {mm : MethodId} {bw : List Frame} {mt : Method} {cd : Code} {QQ : State → Prop} (l : Launch) (hst : l.stackTraces = false) {k0 L : Nat} {xs : Nat → Int32} {D : va_G} {cy : Nat → ClassId} {sa : Nat → Nat} (C0 : LX pp ss mm mt cd k0 L xs D cy sa) {a q r b c d : Nat → Nat} (i : Nat) (hi : i < 80) {cells slots : Nat} (hc : cells + 20 ≤ 654851 ∧ slots + 100 ≤ 7137217) (x : ob_T) (y : ob_K) (z : ob_T) (w : ob_K) (n m : Nat) {H : Heap} {locs : List Loc} {ls : Array Slot} (hP : va_P D vwCl (ob_w cy a q r x y ++ ob_w cy b c d z w) H) (hD : va_D (fun q : Nat => ss.heap.size ≤ q) (ob_w cy a q r x y ++ ob_w cy b c d z w)) (hk1 : ob_k x y) (hk2 : ob_k z w) (h1 : inv x n) (h2 : inv z m) (he : eqs x z) (hn : n ≤ 600 * i + 300) (hm : m ≤ 600 * i + 300) (hS : va_S (fun q : Nat => ss.heap.size ≤ q) ss.heap H locs) (hl : lv_has ls 6 [(3, .int (nI i)), (2, .ref (b 0)), (1, .ref (a 0)), (0, .ref k0)])
    (kk : ∀ (H : Heap) (locs : List Loc) (ls : Array Slot), Two D cy a q r b c d (i + 1) (fun q : Nat => ss.heap.size ≤ q) H → va_S (fun q : Nat => ss.heap.size ≤ q) ss.heap H locs → lv_has ls 6 [(3, .int (nI (i + 1))), (2, .ref (b 0)), (1, .ref (a 0)), (0, .ref k0)] → W pp l ee room_1 ss mm #[Value.ref k0] bw mt cd H locs (cells + 8) (slots + 48) QQ (F0 mm 40 ls [])) : W pp l ee room_1 ss mm #[Value.ref k0] bw mt cd H locs cells slots QQ (F0 mm 79 ls []) := by
  obtain ⟨⟨hx, hb, hr0, hml, hown, hts, hX, hbl, hlocks, hgv⟩, hG, hE, hN9, hL⟩ := id C0
  have hb0 := hb
  have hts : ∀ w ∈ wsL_law, w.before #[Value.ref k0] ss = true := fun w h => hts w (wsL_law_in w h)
  have hown : ss.vm.findClass RL = some mm.cls := hown
  have hb : cd.code = cL_law := hb
  have hbA : ¬ (fun q : Nat => ss.heap.size ≤ q) k0 := Nat.not_le.mpr hbl
  have hA : ∀ q, ss.heap.size ≤ q → (fun q : Nat => ss.heap.size ≤ q) q := fun _ h => h
  refine lv_aload_n hx hb dL_law_79 rfl (lv_at hl 2 rfl) ?_
  refine lv_aload_n hx hb dL_law_80 rfl (lv_at hl 1 rfl) ?_
  refine gc_Yi (B0 := fun _ => True) (va_runS (As := [.ref (a 0), .ref (b 0)]) (rest := []) ⟨hx, hb, hml, hown, hts⟩ (c_L_areAlike l hst D cy sa H.size a q r b c d x y z w he) (va_cwS 2 hts gL_law_L_areAlike rfl rfl rfl (by decide +kernel) ⟨Nat.le_of_ble_eq_true rfl, Nat.le_of_ble_eq_true rfl⟩) (gpSY hG hE hN9 hP hD hS hA) rfl rfl hl.1 rfl (lv_room (Nat.le_of_ble_eq_true rfl)) dL_law_81 ⟨(show cells + 4 ≤ 654851 by omega), (show slots + 24 ≤ 7137217 by omega)⟩) hP hS hA (fun H locs hP hS => ?_)
  refine lv_if_eq (tgt := 102) hx hb dL_law_84 (by decide) (fun c_84 => ?_) (fun c_84 => ?_)
  · skip
    have c_84 : 1 = 0 := (nI_eq (a := 1) (b := 0) (by omega) (by omega)).mp c_84
    exact absurd c_84 (by decide)
  · skip
    have c_84 : ¬ 1 = 0 := fun z => c_84 ((nI_eq (a := 1) (b := 0) (by omega) (by omega)).mpr z)
    refine lv_iload_n hx hb dL_law_87 rfl (lv_at hl 0 rfl) ?_
    refine lv_iconst (v := nI 4) hx hb dL_law_88 (by decide) ?_
    refine lv_irem hx hb dL_law_89 (nI_ne0 (by omega) (by omega)) ?_
    refine g_ti (y := nI (i % 4)) (pk_rem (by omega) (by omega) (by omega)) ?_
    refine lv_iconst (v := nI 3) hx hb dL_law_90 (by decide) ?_
    refine lv_icmp_ne (tgt := 104) hx hb dL_law_91 (by decide) (fun c_91 => ?_) (fun c_91 => ?_)
    · skip
      have c_91 : ¬ (i % 4) = 3 := fun z => c_91 ((nI_eq (a := (i % 4)) (b := 3) (by omega) (by omega)).mpr z)
      refine lv_iload_n hx hb dL_law_104 rfl (lv_at hl 0 rfl) ?_
      refine lv_bipush (v := nI 20) hx hb dL_law_105 (by decide) ?_
      refine lv_irem hx hb dL_law_107 (nI_ne0 (by omega) (by omega)) ?_
      refine g_ti (y := nI (i % 20)) (pk_rem (by omega) (by omega) (by omega)) ?_
      refine lv_bipush (v := nI 19) hx hb dL_law_108 (by decide) ?_
      refine lv_icmp_ne (tgt := 131) hx hb dL_law_110 (by decide) (fun c_110 => ?_) (fun c_110 => ?_)
      · skip
        have c_110 : ¬ (i % 20) = 19 := fun z => c_110 ((nI_eq (a := (i % 20)) (b := 19) (by omega) (by omega)).mpr z)
        refine lv_iinc (v := nI (i + 1)) (lv' := [(3, .int (nI (i + 1))), (2, .ref (b 0)), (1, .ref (a 0)), (0, .ref k0)]) hx hb dL_law_131 hl (k := 0) rfl (nI_1 _) (by decide) rfl (fun ls hl => ?_)
        refine lv_goto (tgt := 40) hx hb dL_law_134 (by decide) ?_
        refine W.widen (k := cells + 8) (n := slots + 48) (by omega) (by omega) ?_
        exact kk H locs ls ⟨x, y, z, w, n, m, hP, hD, hk1, hk2, h1, h2, he, by omega, by omega⟩ hS (lv_sub hl [0, 1, 2, 3] rfl)
      · skip
        have c_110 : (i % 20) = 19 := (nI_eq (a := (i % 20)) (b := 19) (by omega) (by omega)).mp c_110
        refine lv_aload_n hx hb dL_law_113 rfl (lv_at hl 2 rfl) ?_
        refine lv_iconst (v := nI 0) hx hb dL_law_114 (by decide) ?_
        refine gc_Zi (wn := fun u : ob_T × ob_K => ob_w cy a q r u.1 u.2 ++ ob_w cy b c d z w) (wr := ob_w cy b c d z w) (va_runS (As := [.ref (a 0), .int (nI 0)]) (rest := []) ⟨hx, hb, hml, hown, hts⟩ (c_L_isShownSo l hst D cy sa H.size a q r x y hk1 n h1 (by omega)) (va_cwS 2 hts gL_law_L_isShownSo rfl rfl rfl (by decide +kernel) ⟨Nat.le_of_ble_eq_true rfl, Nat.le_of_ble_eq_true rfl⟩) (gpSZ hG hE hN9 hP hD hS hA [0, 1, 2, 3, 4, 5, 6, 7, 8, 9, 10, 11, 12, 13, 14, 15, 16, 17, 18, 19, 20, 21, 22, 23, 24, 25, 26] rfl (by decide)) rfl rfl hl.1 rfl (lv_room (Nat.le_of_ble_eq_true rfl)) dL_law_115 ⟨(show cells + 4 + 2 ≤ 654851 by omega), (show slots + 24 + 12 ≤ 7137217 by omega)⟩) hP hD hS hA [0, 1, 2, 3, 4, 5, 6, 7, 8, 9, 10, 11, 12, 13, 14, 15, 16, 17, 18, 19, 20, 21, 22, 23, 24, 25, 26] [27, 28, 29, 30, 31, 32, 33, 34, 35, 36, 37, 38, 39, 40, 41, 42, 43, 44, 45, 46, 47, 48, 49, 50, 51, 52, 53] [27, 28, 29, 30, 31, 32, 33, 34, 35, 36, 37, 38, 39, 40, 41, 42, 43, 44, 45, 46, 47, 48, 49, 50, 51, 52, 53, 0, 1, 2, 3, 4, 5, 6, 7, 8, 9, 10, 11, 12, 13, 14, 15, 16, 17, 18, 19, 20, 21, 22, 23, 24, 25, 26] rfl rfl (by decide) (by decide) (fun _ => rfl) (by decide) (fun r_1 u H locs hw_1 hP hD hS => ?_)
        obtain ⟨x1, y1⟩ := u
        obtain ⟨hw_1, hk_1⟩ := hw_1
        have hP : va_P D vwCl (ob_w cy a q r x1 y1 ++ ob_w cy b c d z w) H := hP
        have hD : va_D (fun q : Nat => ss.heap.size ≤ q) (ob_w cy a q r x1 y1 ++ ob_w cy b c d z w) := hD
        have hk_1 : ob_k x1 y1 := hk_1
        obtain ⟨e_1, hw_1⟩ := hw_1
        refine g_ti (y := nI 1) e_1 ?_
        obtain ⟨d_1, b_1, i_1⟩ := show_inv h1 hw_1
        refine lv_if_eq (tgt := 129) hx hb dL_law_118 (by decide) (fun c_118 => ?_) (fun c_118 => ?_)
        · skip
          have c_118 : 1 = 0 := (nI_eq (a := 1) (b := 0) (by omega) (by omega)).mp c_118
          exact absurd c_118 (by decide)
        · skip
          have c_118 : ¬ 1 = 0 := fun z => c_118 ((nI_eq (a := 1) (b := 0) (by omega) (by omega)).mpr z)
          refine lv_aload_n hx hb dL_law_121 rfl (lv_at hl 1 rfl) ?_
          refine lv_iconst (v := nI 0) hx hb dL_law_122 (by decide) ?_
          refine gc_Zi (wn := fun u : ob_T × ob_K => ob_w cy a q r x1 y1 ++ ob_w cy b c d u.1 u.2) (wr := ob_w cy a q r x1 y1) (va_runS (As := [.ref (b 0), .int (nI 0)]) (rest := []) ⟨hx, hb, hml, hown, hts⟩ (c_L_isShownSo l hst D cy sa H.size b c d z w hk2 m h2 (by omega)) (va_cwS 2 hts gL_law_L_isShownSo rfl rfl rfl (by decide +kernel) ⟨Nat.le_of_ble_eq_true rfl, Nat.le_of_ble_eq_true rfl⟩) (gpSZ hG hE hN9 hP hD hS hA [27, 28, 29, 30, 31, 32, 33, 34, 35, 36, 37, 38, 39, 40, 41, 42, 43, 44, 45, 46, 47, 48, 49, 50, 51, 52, 53] rfl (by decide)) rfl rfl hl.1 rfl (lv_room (Nat.le_of_ble_eq_true rfl)) dL_law_123 ⟨(show cells + 4 + 2 + 2 ≤ 654851 by omega), (show slots + 24 + 12 + 12 ≤ 7137217 by omega)⟩) hP hD hS hA [27, 28, 29, 30, 31, 32, 33, 34, 35, 36, 37, 38, 39, 40, 41, 42, 43, 44, 45, 46, 47, 48, 49, 50, 51, 52, 53] [0, 1, 2, 3, 4, 5, 6, 7, 8, 9, 10, 11, 12, 13, 14, 15, 16, 17, 18, 19, 20, 21, 22, 23, 24, 25, 26] [0, 1, 2, 3, 4, 5, 6, 7, 8, 9, 10, 11, 12, 13, 14, 15, 16, 17, 18, 19, 20, 21, 22, 23, 24, 25, 26, 27, 28, 29, 30, 31, 32, 33, 34, 35, 36, 37, 38, 39, 40, 41, 42, 43, 44, 45, 46, 47, 48, 49, 50, 51, 52, 53] rfl rfl (by decide) (by decide) (fun _ => rfl) (by decide) (fun r_2 u H locs hw_2 hP hD hS => ?_)
          obtain ⟨z2, w2⟩ := u
          obtain ⟨hw_2, hk_2⟩ := hw_2
          have hP : va_P D vwCl (ob_w cy a q r x1 y1 ++ ob_w cy b c d z2 w2) H := hP
          have hD : va_D (fun q : Nat => ss.heap.size ≤ q) (ob_w cy a q r x1 y1 ++ ob_w cy b c d z2 w2) := hD
          have hk_2 : ob_k z2 w2 := hk_2
          obtain ⟨e_2, hw_2⟩ := hw_2
          refine g_ti (y := nI 1) e_2 ?_
          obtain ⟨d_2, b_2, i_2⟩ := show_inv h2 hw_2
          have e9 := show_det h1 he hw_1 hw_2
          refine lv_if_ne (tgt := 131) hx hb dL_law_126 (by decide) (fun c_126 => ?_) (fun c_126 => ?_)
          · skip
            have c_126 : ¬ 1 = 0 := fun z => c_126 ((nI_eq (a := 1) (b := 0) (by omega) (by omega)).mpr z)
            refine lv_iinc (v := nI (i + 1)) (lv' := [(3, .int (nI (i + 1))), (2, .ref (b 0)), (1, .ref (a 0)), (0, .ref k0)]) hx hb dL_law_131 hl (k := 0) rfl (nI_1 _) (by decide) rfl (fun ls hl => ?_)
            refine lv_goto (tgt := 40) hx hb dL_law_134 (by decide) ?_
            refine W.widen (k := cells + 8) (n := slots + 48) (by omega) (by omega) ?_
            exact kk H locs ls ⟨x1, y1, z2, w2, (n + d_1), (m + d_2), hP, hD, hk_1, hk_2, i_1, i_2, e9, by omega, by omega⟩ hS (lv_sub hl [0, 1, 2, 3] rfl)
          · skip
            have c_126 : 1 = 0 := (nI_eq (a := 1) (b := 0) (by omega) (by omega)).mp c_126
            exact absurd c_126 (by decide)
    · skip
      have c_91 : (i % 4) = 3 := (nI_eq (a := (i % 4)) (b := 3) (by omega) (by omega)).mp c_91
      refine lv_aload_n hx hb dL_law_94 rfl (lv_at hl 2 rfl) ?_
      refine lv_iconst (v := nI 0) hx hb dL_law_95 (by decide) ?_
      refine gc_Si (va_runS (As := [.ref (a 0), .int (nI 0)]) (rest := []) ⟨hx, hb, hml, hown, hts⟩ (c_L_areTilesSo l D cy a q (ob_U x) (gQ q r) (ob_J x 0) (nI (ob_M x 0).length) (ob_F x) (ob_L x 0) (y.2.1 0) (ob_C x 0) (y.2.2.2.2.1 0) (ob_O x 0) (y.2.2.2.1 0) rfl h1.2.1 (hk1.2.2.2.2.1 0 (by decide)) (hk1.1 0 (by decide)) (hk1.2.2.2.2.2.2.1 0 (by decide)) (hk1.2.1 0 (by decide)) (hk1.2.2.2.2.2.1 0 (by decide)) (hk1.2.2.1 0 (by decide))) (va_cwS 2 hts gL_law_L_areTilesSo rfl rfl rfl (by decide +kernel) ⟨Nat.le_of_ble_eq_true rfl, Nat.le_of_ble_eq_true rfl⟩) (gpSR hG (hP.sub [0, 5, 7, 14, 1, 2, 10, 11, 12, 13] rfl)) rfl rfl hl.1 rfl (lv_room (Nat.le_of_ble_eq_true rfl)) dL_law_96 ⟨(show cells + 4 + 0 ≤ 654851 by omega), (show slots + 24 + 0 ≤ 7137217 by omega)⟩) ?_
      refine lv_if_ne (tgt := 104) hx hb dL_law_99 (by decide) (fun c_99 => ?_) (fun c_99 => ?_)
      · skip
        have c_99 : ¬ 1 = 0 := fun z => c_99 ((nI_eq (a := 1) (b := 0) (by omega) (by omega)).mpr z)
        refine lv_iload_n hx hb dL_law_104 rfl (lv_at hl 0 rfl) ?_
        refine lv_bipush (v := nI 20) hx hb dL_law_105 (by decide) ?_
        refine lv_irem hx hb dL_law_107 (nI_ne0 (by omega) (by omega)) ?_
        refine g_ti (y := nI (i % 20)) (pk_rem (by omega) (by omega) (by omega)) ?_
        refine lv_bipush (v := nI 19) hx hb dL_law_108 (by decide) ?_
        refine lv_icmp_ne (tgt := 131) hx hb dL_law_110 (by decide) (fun c_110 => ?_) (fun c_110 => ?_)
        · skip
          have c_110 : ¬ (i % 20) = 19 := fun z => c_110 ((nI_eq (a := (i % 20)) (b := 19) (by omega) (by omega)).mpr z)
          refine lv_iinc (v := nI (i + 1)) (lv' := [(3, .int (nI (i + 1))), (2, .ref (b 0)), (1, .ref (a 0)), (0, .ref k0)]) hx hb dL_law_131 hl (k := 0) rfl (nI_1 _) (by decide) rfl (fun ls hl => ?_)
          refine lv_goto (tgt := 40) hx hb dL_law_134 (by decide) ?_
          refine W.widen (k := cells + 8) (n := slots + 48) (by omega) (by omega) ?_
          exact kk H locs ls ⟨x, y, z, w, n, m, hP, hD, hk1, hk2, h1, h2, he, by omega, by omega⟩ hS (lv_sub hl [0, 1, 2, 3] rfl)
        · skip
          have c_110 : (i % 20) = 19 := (nI_eq (a := (i % 20)) (b := 19) (by omega) (by omega)).mp c_110
          refine lv_aload_n hx hb dL_law_113 rfl (lv_at hl 2 rfl) ?_
          refine lv_iconst (v := nI 0) hx hb dL_law_114 (by decide) ?_
          refine gc_Zi (wn := fun u : ob_T × ob_K => ob_w cy a q r u.1 u.2 ++ ob_w cy b c d z w) (wr := ob_w cy b c d z w) (va_runS (As := [.ref (a 0), .int (nI 0)]) (rest := []) ⟨hx, hb, hml, hown, hts⟩ (c_L_isShownSo l hst D cy sa H.size a q r x y hk1 n h1 (by omega)) (va_cwS 2 hts gL_law_L_isShownSo rfl rfl rfl (by decide +kernel) ⟨Nat.le_of_ble_eq_true rfl, Nat.le_of_ble_eq_true rfl⟩) (gpSZ hG hE hN9 hP hD hS hA [0, 1, 2, 3, 4, 5, 6, 7, 8, 9, 10, 11, 12, 13, 14, 15, 16, 17, 18, 19, 20, 21, 22, 23, 24, 25, 26] rfl (by decide)) rfl rfl hl.1 rfl (lv_room (Nat.le_of_ble_eq_true rfl)) dL_law_115 ⟨(show cells + 4 + 2 ≤ 654851 by omega), (show slots + 24 + 12 ≤ 7137217 by omega)⟩) hP hD hS hA [0, 1, 2, 3, 4, 5, 6, 7, 8, 9, 10, 11, 12, 13, 14, 15, 16, 17, 18, 19, 20, 21, 22, 23, 24, 25, 26] [27, 28, 29, 30, 31, 32, 33, 34, 35, 36, 37, 38, 39, 40, 41, 42, 43, 44, 45, 46, 47, 48, 49, 50, 51, 52, 53] [27, 28, 29, 30, 31, 32, 33, 34, 35, 36, 37, 38, 39, 40, 41, 42, 43, 44, 45, 46, 47, 48, 49, 50, 51, 52, 53, 0, 1, 2, 3, 4, 5, 6, 7, 8, 9, 10, 11, 12, 13, 14, 15, 16, 17, 18, 19, 20, 21, 22, 23, 24, 25, 26] rfl rfl (by decide) (by decide) (fun _ => rfl) (by decide) (fun r_3 u H locs hw_3 hP hD hS => ?_)
          obtain ⟨x3, y3⟩ := u
          obtain ⟨hw_3, hk_3⟩ := hw_3
          have hP : va_P D vwCl (ob_w cy a q r x3 y3 ++ ob_w cy b c d z w) H := hP
          have hD : va_D (fun q : Nat => ss.heap.size ≤ q) (ob_w cy a q r x3 y3 ++ ob_w cy b c d z w) := hD
          have hk_3 : ob_k x3 y3 := hk_3
          obtain ⟨e_3, hw_3⟩ := hw_3
          refine g_ti (y := nI 1) e_3 ?_
          obtain ⟨d_3, b_3, i_3⟩ := show_inv h1 hw_3
          refine lv_if_eq (tgt := 129) hx hb dL_law_118 (by decide) (fun c_118 => ?_) (fun c_118 => ?_)
          · skip
            have c_118 : 1 = 0 := (nI_eq (a := 1) (b := 0) (by omega) (by omega)).mp c_118
            exact absurd c_118 (by decide)
          · skip
            have c_118 : ¬ 1 = 0 := fun z => c_118 ((nI_eq (a := 1) (b := 0) (by omega) (by omega)).mpr z)
            refine lv_aload_n hx hb dL_law_121 rfl (lv_at hl 1 rfl) ?_
            refine lv_iconst (v := nI 0) hx hb dL_law_122 (by decide) ?_
            refine gc_Zi (wn := fun u : ob_T × ob_K => ob_w cy a q r x3 y3 ++ ob_w cy b c d u.1 u.2) (wr := ob_w cy a q r x3 y3) (va_runS (As := [.ref (b 0), .int (nI 0)]) (rest := []) ⟨hx, hb, hml, hown, hts⟩ (c_L_isShownSo l hst D cy sa H.size b c d z w hk2 m h2 (by omega)) (va_cwS 2 hts gL_law_L_isShownSo rfl rfl rfl (by decide +kernel) ⟨Nat.le_of_ble_eq_true rfl, Nat.le_of_ble_eq_true rfl⟩) (gpSZ hG hE hN9 hP hD hS hA [27, 28, 29, 30, 31, 32, 33, 34, 35, 36, 37, 38, 39, 40, 41, 42, 43, 44, 45, 46, 47, 48, 49, 50, 51, 52, 53] rfl (by decide)) rfl rfl hl.1 rfl (lv_room (Nat.le_of_ble_eq_true rfl)) dL_law_123 ⟨(show cells + 4 + 2 + 2 ≤ 654851 by omega), (show slots + 24 + 12 + 12 ≤ 7137217 by omega)⟩) hP hD hS hA [27, 28, 29, 30, 31, 32, 33, 34, 35, 36, 37, 38, 39, 40, 41, 42, 43, 44, 45, 46, 47, 48, 49, 50, 51, 52, 53] [0, 1, 2, 3, 4, 5, 6, 7, 8, 9, 10, 11, 12, 13, 14, 15, 16, 17, 18, 19, 20, 21, 22, 23, 24, 25, 26] [0, 1, 2, 3, 4, 5, 6, 7, 8, 9, 10, 11, 12, 13, 14, 15, 16, 17, 18, 19, 20, 21, 22, 23, 24, 25, 26, 27, 28, 29, 30, 31, 32, 33, 34, 35, 36, 37, 38, 39, 40, 41, 42, 43, 44, 45, 46, 47, 48, 49, 50, 51, 52, 53] rfl rfl (by decide) (by decide) (fun _ => rfl) (by decide) (fun r_4 u H locs hw_4 hP hD hS => ?_)
            obtain ⟨z4, w4⟩ := u
            obtain ⟨hw_4, hk_4⟩ := hw_4
            have hP : va_P D vwCl (ob_w cy a q r x3 y3 ++ ob_w cy b c d z4 w4) H := hP
            have hD : va_D (fun q : Nat => ss.heap.size ≤ q) (ob_w cy a q r x3 y3 ++ ob_w cy b c d z4 w4) := hD
            have hk_4 : ob_k z4 w4 := hk_4
            obtain ⟨e_4, hw_4⟩ := hw_4
            refine g_ti (y := nI 1) e_4 ?_
            obtain ⟨d_4, b_4, i_4⟩ := show_inv h2 hw_4
            have e9 := show_det h1 he hw_3 hw_4
            refine lv_if_ne (tgt := 131) hx hb dL_law_126 (by decide) (fun c_126 => ?_) (fun c_126 => ?_)
            · skip
              have c_126 : ¬ 1 = 0 := fun z => c_126 ((nI_eq (a := 1) (b := 0) (by omega) (by omega)).mpr z)
              refine lv_iinc (v := nI (i + 1)) (lv' := [(3, .int (nI (i + 1))), (2, .ref (b 0)), (1, .ref (a 0)), (0, .ref k0)]) hx hb dL_law_131 hl (k := 0) rfl (nI_1 _) (by decide) rfl (fun ls hl => ?_)
              refine lv_goto (tgt := 40) hx hb dL_law_134 (by decide) ?_
              refine W.widen (k := cells + 8) (n := slots + 48) (by omega) (by omega) ?_
              exact kk H locs ls ⟨x3, y3, z4, w4, (n + d_3), (m + d_4), hP, hD, hk_3, hk_4, i_3, i_4, e9, by omega, by omega⟩ hS (lv_sub hl [0, 1, 2, 3] rfl)
            · skip
              have c_126 : 1 = 0 := (nI_eq (a := 1) (b := 0) (by omega) (by omega)).mp c_126
              exact absurd c_126 (by decide)
      · skip
        have c_99 : 1 = 0 := (nI_eq (a := 1) (b := 0) (by omega) (by omega)).mp c_99
        exact absurd c_99 (by decide)
set_option maxHeartbeats 4000000 in
set_option maxRecDepth 100000 in
/-- one step of the loop, from behind its test -/
theorem law_46 {pp : Program} {ee : Env} {ss : State} {mm : MethodId} {bw : List Frame} {mt : Method} {cd : Code} {QQ : State → Prop} (l : Launch) (hst : l.stackTraces = false) {k0 L : Nat} {xs : Nat → Int32} {D : va_G} {cy : Nat → ClassId} {sa : Nat → Nat} (C0 : LX pp ss mm mt cd k0 L xs D cy sa) {a q r b c d : Nat → Nat} (i : Nat) (hi : i < 80) {cells slots : Nat} (hc : cells + 30 ≤ 654851 ∧ slots + 200 ≤ 7137217) {H : Heap} {locs : List Loc} {ls : Array Slot} (hI : Two D cy a q r b c d i (fun q : Nat => ss.heap.size ≤ q) H) (hS : va_S (fun q : Nat => ss.heap.size ≤ q) ss.heap H locs) (hl : lv_has ls 6 [(3, .int (nI i)), (2, .ref (b 0)), (1, .ref (a 0)), (0, .ref k0)])
    (kk : ∀ (H : Heap) (locs : List Loc) (ls : Array Slot), Two D cy a q r b c d (i + 1) (fun q : Nat => ss.heap.size ≤ q) H → va_S (fun q : Nat => ss.heap.size ≤ q) ss.heap H locs → lv_has ls 6 [(3, .int (nI (i + 1))), (2, .ref (b 0)), (1, .ref (a 0)), (0, .ref k0)] → W pp l ee room_1 ss mm #[Value.ref k0] bw mt cd H locs (cells + 2 + 8) (slots + 12 + 48) QQ (F0 mm 40 ls [])) : W pp l ee room_1 ss mm #[Value.ref k0] bw mt cd H locs cells slots QQ (F0 mm 46 ls []) := by
  obtain ⟨⟨hx, hb, hr0, hml, hown, hts, hX, hbl, hlocks, hgv⟩, hG, hE, hN9, hL⟩ := id C0
  have hb0 := hb
  have hts : ∀ w ∈ wsL_law, w.before #[Value.ref k0] ss = true := fun w h => hts w (wsL_law_in w h)
  have hown : ss.vm.findClass RL = some mm.cls := hown
  have hb : cd.code = cL_law := hb
  have hbA : ¬ (fun q : Nat => ss.heap.size ≤ q) k0 := Nat.not_le.mpr hbl
  have hA : ∀ q, ss.heap.size ≤ q → (fun q : Nat => ss.heap.size ≤ q) q := fun _ h => h
  obtain ⟨x, y, z, w, n, m, hP, hD, hk1, hk2, h1, h2, he, hn, hm⟩ := hI
  refine lv_aload_n hx hb dL_law_46 rfl (lv_at hl 3 rfl) ?_
  refine lv_iload_n hx hb dL_law_47 rfl (lv_at hl 0 rfl) ?_
  refine gc_Si (va_runS (As := [.ref k0, .int (nI i)]) (rest := []) ⟨hx, hb, hml, hown, hts⟩ (c_L_cell l k0 L xs i (by omega) hL) (va_cwS 2 hts gL_law_L_cell rfl rfl rfl (by decide +kernel) ⟨Nat.le_of_ble_eq_true rfl, Nat.le_of_ble_eq_true rfl⟩) (gpSC hX hbl hbA hS) rfl rfl hl.1 rfl (lv_room (Nat.le_of_ble_eq_true rfl)) dL_law_48 ⟨(show cells + 0 ≤ 654851 by omega), (show slots + 0 ≤ 7137217 by omega)⟩) ?_
  generalize o_cell xs L i = v
  refine lv_istore (lv' := [(4, .int v), (3, .int (nI i)), (2, .ref (b 0)), (1, .ref (a 0)), (0, .ref k0)]) hx hb dL_law_51 hl (by decide) rfl (fun ls hl => ?_)
  refine lv_aload_n hx hb dL_law_53 rfl (lv_at hl 3 rfl) ?_
  refine lv_iload hx hb dL_law_54 (lv_at hl 0 rfl) ?_
  refine gc_Zi (wn := fun u : ob_T × ob_K => ob_w cy a q r u.1 u.2 ++ ob_w cy b c d z w) (wr := ob_w cy b c d z w) (va_runS (As := [.ref (a 0), .int v]) (rest := []) ⟨hx, hb, hml, hown, hts⟩ (c_L_act l hst D cy sa H.size a q r x y hk1 v) (va_cwS 2 hts gL_law_L_act rfl rfl rfl (by decide +kernel) ⟨Nat.le_of_ble_eq_true rfl, Nat.le_of_ble_eq_true rfl⟩) (gpSZ hG hE hN9 hP hD hS hA [0, 1, 2, 3, 4, 5, 6, 7, 8, 9, 10, 11, 12, 13, 14, 15, 16, 17, 18, 19, 20, 21, 22, 23, 24, 25, 26] rfl (by decide)) rfl rfl hl.1 rfl (lv_room (Nat.le_of_ble_eq_true rfl)) dL_law_56 ⟨(show cells + 1 ≤ 654851 by omega), (show slots + 6 ≤ 7137217 by omega)⟩) hP hD hS hA [0, 1, 2, 3, 4, 5, 6, 7, 8, 9, 10, 11, 12, 13, 14, 15, 16, 17, 18, 19, 20, 21, 22, 23, 24, 25, 26] [27, 28, 29, 30, 31, 32, 33, 34, 35, 36, 37, 38, 39, 40, 41, 42, 43, 44, 45, 46, 47, 48, 49, 50, 51, 52, 53] [27, 28, 29, 30, 31, 32, 33, 34, 35, 36, 37, 38, 39, 40, 41, 42, 43, 44, 45, 46, 47, 48, 49, 50, 51, 52, 53, 0, 1, 2, 3, 4, 5, 6, 7, 8, 9, 10, 11, 12, 13, 14, 15, 16, 17, 18, 19, 20, 21, 22, 23, 24, 25, 26] rfl rfl (by decide) (by decide) (fun _ => rfl) (by decide) (fun r_1 u H locs hw_1 hP hD hS => ?_)
  obtain ⟨x1, y1⟩ := u
  obtain ⟨hw_1, hk_1⟩ := hw_1
  have hP : va_P D vwCl (ob_w cy a q r x1 y1 ++ ob_w cy b c d z w) H := hP
  have hD : va_D (fun q : Nat => ss.heap.size ≤ q) (ob_w cy a q r x1 y1 ++ ob_w cy b c d z w) := hD
  have hk_1 : ob_k x1 y1 := hk_1
  obtain ⟨⟨d_1, b_1, i_1⟩, -⟩ := act_inv h1 hw_1
  refine lv_istore (lv' := [(5, .int r_1), (4, .int v), (3, .int (nI i)), (2, .ref (b 0)), (1, .ref (a 0)), (0, .ref k0)]) hx hb dL_law_59 hl (by decide) rfl (fun ls hl => ?_)
  refine lv_iload hx hb dL_law_61 (lv_at hl 0 rfl) ?_
  refine lv_ldc (v := (-99999)) hx hb hown (hts (.constant RL 16 (-99999)) (by decide +kernel)) dL_law_63 ?_
  refine lv_icmp_eq (tgt := 79) hx hb dL_law_65 (by decide) (fun c_65 => ?_) (fun c_65 => ?_)
  · skip
    refine W.widen (k := cells + 2) (n := slots + 12) (by omega) (by omega) ?_
    exact law_79 l hst C0 i hi (cells := cells + 2) (slots := slots + 12) (by omega) x1 y1 z w (n + d_1) m hP hD hk_1 hk2 i_1 h2 (by have e7 : x1 = x := (act_inv h1 hw_1).2 c_65; rw [e7]; exact he) (by omega) (by omega) hS (lv_sub hl [2, 3, 4, 5] rfl) kk
  · skip
    refine lv_aload_n hx hb dL_law_68 rfl (lv_at hl 3 rfl) ?_
    refine lv_iload hx hb dL_law_69 (lv_at hl 1 rfl) ?_
    refine gc_Zi (wn := fun u : ob_T × ob_K => ob_w cy a q r x1 y1 ++ ob_w cy b c d u.1 u.2) (wr := ob_w cy a q r x1 y1) (va_runS (As := [.ref (b 0), .int v]) (rest := []) ⟨hx, hb, hml, hown, hts⟩ (c_L_act l hst D cy sa H.size b c d z w hk2 v) (va_cwS 2 hts gL_law_L_act rfl rfl rfl (by decide +kernel) ⟨Nat.le_of_ble_eq_true rfl, Nat.le_of_ble_eq_true rfl⟩) (gpSZ hG hE hN9 hP hD hS hA [27, 28, 29, 30, 31, 32, 33, 34, 35, 36, 37, 38, 39, 40, 41, 42, 43, 44, 45, 46, 47, 48, 49, 50, 51, 52, 53] rfl (by decide)) rfl rfl hl.1 rfl (lv_room (Nat.le_of_ble_eq_true rfl)) dL_law_71 ⟨(show cells + 1 + 1 ≤ 654851 by omega), (show slots + 6 + 6 ≤ 7137217 by omega)⟩) hP hD hS hA [27, 28, 29, 30, 31, 32, 33, 34, 35, 36, 37, 38, 39, 40, 41, 42, 43, 44, 45, 46, 47, 48, 49, 50, 51, 52, 53] [0, 1, 2, 3, 4, 5, 6, 7, 8, 9, 10, 11, 12, 13, 14, 15, 16, 17, 18, 19, 20, 21, 22, 23, 24, 25, 26] [0, 1, 2, 3, 4, 5, 6, 7, 8, 9, 10, 11, 12, 13, 14, 15, 16, 17, 18, 19, 20, 21, 22, 23, 24, 25, 26, 27, 28, 29, 30, 31, 32, 33, 34, 35, 36, 37, 38, 39, 40, 41, 42, 43, 44, 45, 46, 47, 48, 49, 50, 51, 52, 53] rfl rfl (by decide) (by decide) (fun _ => rfl) (by decide) (fun r_2 u H locs hw_2 hP hD hS => ?_)
    obtain ⟨z2, w2⟩ := u
    obtain ⟨hw_2, hk_2⟩ := hw_2
    have hP : va_P D vwCl (ob_w cy a q r x1 y1 ++ ob_w cy b c d z2 w2) H := hP
    have hD : va_D (fun q : Nat => ss.heap.size ≤ q) (ob_w cy a q r x1 y1 ++ ob_w cy b c d z2 w2) := hD
    have hk_2 : ob_k z2 w2 := hk_2
    obtain ⟨⟨d_2, b_2, i_2⟩, -⟩ := act_inv h2 hw_2
    have c_9 := (act_det h1.1 he hw_1 hw_2).1
    refine lv_iload hx hb dL_law_74 (lv_at hl 0 rfl) ?_
    refine lv_icmp_ne (tgt := 102) hx hb dL_law_76 (by decide) (fun c_76 => ?_) (fun c_76 => ?_)
    · skip
      exact absurd c_9.symm c_76
    · skip
      refine W.widen (k := cells + 2) (n := slots + 12) (by omega) (by omega) ?_
      exact law_79 l hst C0 i hi (cells := cells + 2) (slots := slots + 12) (by omega) x1 y1 z2 w2 (n + d_1) (m + d_2) hP hD hk_1 hk_2 i_1 i_2 (act_det h1.1 he hw_1 hw_2).2 (by omega) (by omega) hS (lv_sub hl [2, 3, 4, 5] rfl) kk
set_option maxHeartbeats 4000000 in
set_option maxRecDepth 100000 in
theorem law_loop {pp : Program} {ee : Env} {ss : State} {mm : MethodId} {bw : List Frame} {mt : Method} {cd : Code} (l : Launch) (hst : l.stackTraces = false) {k0 L : Nat} {xs : Nat → Int32} {D : va_G} {cy : Nat → ClassId} {sa : Nat → Nat} (C0 : LX pp ss mm mt cd k0 L xs D cy sa) {a q r b c d : Nat → Nat} :
    ∀ (n i : Nat), i ≤ 80 → 81 ≤ i + n → ∀ (H : Heap) (locs : List Loc) (ls : Array Slot), Two D cy a q r b c d i (fun q : Nat => ss.heap.size ≤ q) H → va_S (fun q : Nat => ss.heap.size ≤ q) ss.heap H locs → lv_has ls 6 [(3, .int (nI i)), (2, .ref (b 0)), (1, .ref (a 0)), (0, .ref k0)] → W pp l ee room_1 ss mm #[Value.ref k0] bw mt cd H locs (100 + 10 * i) (6000 + 60 * i) (lw_Z bw #[Value.ref k0] ss) (F0 mm 40 ls []) := by
  obtain ⟨⟨hx, hb, hr0, hml, hown, hts, hX, hbl, hlocks, hgv⟩, hG, hE, hN9, hL⟩ := id C0
  have hb0 := hb
  have hts : ∀ w ∈ wsL_law, w.before #[Value.ref k0] ss = true := fun w h => hts w (wsL_law_in w h)
  have hown : ss.vm.findClass RL = some mm.cls := hown
  have hb : cd.code = cL_law := hb
  have hbA : ¬ (fun q : Nat => ss.heap.size ≤ q) k0 := Nat.not_le.mpr hbl
  have hA : ∀ q, ss.heap.size ≤ q → (fun q : Nat => ss.heap.size ≤ q) q := fun _ h => h
  intro n
  induction n with
  | zero => intro i h1 h2; exact absurd h2 (by omega)
  | succ n ih =>
    intro i hi hn H locs ls hI hS hl
    obtain ⟨cells, ec⟩ : ∃ z, z = 100 + 10 * i := ⟨_, rfl⟩
    obtain ⟨slots, es⟩ : ∃ z, z = 6000 + 60 * i := ⟨_, rfl⟩
    rw [← ec, ← es]
    refine lv_iload_n hx hb dL_law_40 rfl (lv_at hl 0 rfl) ?_
    refine lv_bipush (v := nI 80) hx hb dL_law_41 (by decide) ?_
    refine lv_icmp_ge (tgt := 137) hx hb dL_law_43 (by decide) (fun c_43 => ?_) (fun c_43 => ?_)
    · obtain ⟨x, y, z, w, n, m, hP, hD, hk1, hk2, h1, h2, he, hn, hm⟩ := hI
      refine lv_aload_n hx hb dL_law_137 rfl (lv_at hl 2 rfl) ?_
      refine lv_aload_n hx hb dL_law_138 rfl (lv_at hl 1 rfl) ?_
      refine gc_Yi (B0 := fun _ => True) (va_runS (As := [.ref (a 0), .ref (b 0)]) (rest := []) ⟨hx, hb, hml, hown, hts⟩ (c_L_areAlike l hst D cy sa H.size a q r b c d x y z w he) (va_cwS 2 hts gL_law_L_areAlike rfl rfl rfl (by decide +kernel) ⟨Nat.le_of_ble_eq_true rfl, Nat.le_of_ble_eq_true rfl⟩) (gpSY hG hE hN9 hP hD hS hA) rfl rfl hl.1 rfl (lv_room (Nat.le_of_ble_eq_true rfl)) dL_law_139 ⟨(show cells + 4 ≤ 654851 by omega), (show slots + 24 ≤ 7137217 by omega)⟩) hP hS hA (fun H locs hP hS => ?_)
      refine va_forget (fun q hq => hS.2.2 q hq) ?_
      refine W.widen (k := 654851) (n := 7137217) (by omega) (by omega) ?_
      refine g_ti (y := 1) rfl ?_
      exact lw_ret hx hb0 hr0 hlocks dL_law_142
    · have hlt : i < 80 := Nat.not_le.mp (fun z => c_43 ((nI_leI (by decide) (by omega)).mpr z))
      refine law_46 l hst C0 i hlt (by omega) hI hS hl (fun H locs ls hI hS hl => ?_)
      have e1 : cells + 2 + 8 = 100 + 10 * (i + 1) := by omega
      have e2 : slots + 12 + 48 = 6000 + 60 * (i + 1) := by omega
      rw [e1, e2]
      exact ih (i + 1) (by omega) (by omega) H locs ls hI hS hl
