/-! the law's methods -/
section GC9
variable {l : Launch} {y : MethodName} {ws ws' : List Cond} {rm : Room} {cc : ByteArray} {maxL : Nat} {av : List Value} {b L : Nat} {xs : Nat → Int32}
theorem gM_c {post : Int32 → Prop} (hy : plainName y.cls = true) (hw : ws = Cond.code y cc maxL (some .int) :: ws') (hlen : (lg_sl av).length ≤ maxL)
    (body : ∀ (p : Program) (e : Env) (s : State) (m : MethodId) (below : List Frame) (meth : Method) (c : Code) (Q : State → Prop) (ls : Array Slot), gFx y.cls cc maxL ws p s m av.toArray meth c → va_X b L xs s s.heap → b < s.heap.size →
      (∀ (pc : Nat) (ls : Array Slot) (v : Int32), decode cc pc = .ok (.ireturn, 1) → post v → W p l e rm s m av.toArray below meth c s.heap [] 0 0 Q (F0 m pc ls [.int v])) →
      lv_has ls maxL (lv_args 0 av) → W p l e rm s m av.toArray below meth c s.heap [] 0 0 Q (F0 m 0 ls [])) : Met l y ws rm (va_Pc av (fun U => va_X b L xs U U.heap)) (vp_Si post) 0 0 (fun _ => False) := by
  refine Met.ofW (cc := cc) (maxL := maxL) (ret := some .int) hy hw ?_
  intro p e s m args below meth c s₁ B hml hv
  obtain ⟨rfl, hX⟩ := hv
  have hbl : b < s.heap.size := by
    obtain ⟨scr, h1, _⟩ := hX
    exact (Array.getElem?_eq_some_iff.mp h1).1
  rw [lg_entry_eq]
  exact body p e s m below meth c _ _ ⟨B.exec, B.bytes, hml, findClass_of_methodNamed B.named, atoms_spec (ws := ws) B.pre, B.notSynchronized⟩ hX hbl
    (fun pc ls v hd hp => W.zret B.exec B.bytes B.returns rfl (fun t ht hW => ⟨v, rfl, hp, ht⟩) (fun q hq => nomatch hq) hd B.notSynchronized) (lv_entry av hlen)
theorem gpSC {s : State} {H0 H : Heap} {As : List Value} {A : Nat → Prop} {locs : List Loc} (hX : va_X b L xs s H0) (hbl : b < H0.size) (hbA : ¬ A b) (hS : va_S A H0 H locs) : PreS s H (va_Pc As (fun U => va_X b L xs U U.heap)) As :=
  ⟨fun a U g mk q => ⟨q.1, va_X.moved (u := U) (U := U.calling g mk a) (Vm.Alike.refl U.vm) q.2⟩, fun U hU hW => ⟨rfl, by show va_X b L xs U U.heap; rw [hU]; exact va_X.moved hW.alike (hX.kept (hS.2.1 b hbl hbA))⟩⟩
end GC9
def o_cell (xs : Nat → Int32) (L k : Nat) : Int32 := if k < L then xs k else nI (7919 * (k + 739) * (k + 1093))
set_option maxHeartbeats 4000000 in
set_option maxRecDepth 100000 in
theorem c_L_low (l : Launch) (D : va_G) (cy : Nat → ClassId) (x n : Int32) (hn : ¬ n = 0) : Met l yL_low wsL_low ({ frames := 0, cells := 0, slots := 0, locals := 0 } : Room) (va_Pc [.int x, .int n] (gR D (gT cy) [])) (vp_Si (fun r9 => r9 = lowI x n)) 0 0 (fun _ => False) := by
  refine gM_i (cc := cL_low) (maxL := 2) (ty := .int) (by decide) rfl (Nat.le_of_ble_eq_true rfl) (fun v hv => by rw [hv]; first | rfl | exact gb_nar _) ?_
  intro pp ee ss mm bw mt cd QQ ls hfx hP hG hret hl
  obtain ⟨hx, hb, hml, hown, hts, hlocks⟩ := hfx
  have hown : ss.vm.findClass RL = some mm.cls := hown
  have hl : lv_has ls 2 [(0, .int x), (1, .int n)] := hl
  refine lv_iload_n hx hb dL_low_0 rfl (lv_at hl 0 rfl) ?_
  refine lv_ldc (v := (2147483647)) hx hb hown (hts (.constant RL 7 (2147483647)) (by decide +kernel)) dL_low_1 ?_
  refine lv_iand hx hb dL_low_3 ?_
  refine lv_iload_n hx hb dL_low_4 rfl (lv_at hl 1 rfl) ?_
  refine lv_irem hx hb dL_low_5 hn ?_
  exact hret _ _ _ dL_low_6 rfl
set_option maxHeartbeats 4000000 in
set_option maxRecDepth 100000 in
theorem c_L_cell (l : Launch) (b L : Nat) (xs : Nat → Int32) (k : Nat) (hk : k < 80) (hL : L ≤ 260) : Met l yL_cell wsL_cell ({ frames := 0, cells := 0, slots := 0, locals := 0 } : Room) (va_Pc [.ref b, .int (nI k)] (fun U => va_X b L xs U U.heap)) (vp_Si (fun r => r = o_cell xs L k)) 0 0 (fun _ => False) := by
  refine gM_c (cc := cL_cell) (maxL := 2) (by decide) rfl (Nat.le_of_ble_eq_true rfl) ?_
  intro pp ee ss mm bw mt cd QQ ls hfx hX hbl hret hl
  obtain ⟨hx, hb, hml, hown, hts, hlocks⟩ := hfx
  have hown : ss.vm.findClass RL = some mm.cls := hown
  have hl : lv_has ls 2 [(0, .ref b), (1, .int (nI k))] := hl
  refine lv_iload_n hx hb dL_cell_0 rfl (lv_at hl 1 rfl) ?_
  refine lv_aload_n hx hb dL_cell_1 rfl (lv_at hl 0 rfl) ?_
  refine va_slen hx hb hX hbl (A := fun _ => False) (fun z => z) va_S.rf dL_cell_2 ?_
  refine g_ti (y := nI L) rfl ?_
  refine lv_icmp_ge (tgt := 12) hx hb dL_cell_3 (by decide) (fun c_3 => ?_) (fun c_3 => ?_)
  · skip
    have c_3 : L ≤ k := (nI_leI (a := L) (b := k) (by omega) (by omega)).mp c_3
    refine lv_sipush (v := nI 7919) hx hb dL_cell_12 (by decide) ?_
    refine lv_iload_n hx hb dL_cell_15 rfl (lv_at hl 1 rfl) ?_
    refine lv_sipush (v := nI 739) hx hb dL_cell_16 (by decide) ?_
    refine lv_iadd hx hb dL_cell_19 ?_
    refine g_ti (y := nI (k + 739)) (nI_add _ _) ?_
    refine lv_imul hx hb dL_cell_20 ?_
    refine g_ti (y := nI (7919 * (k + 739))) (pk_mul _ _) ?_
    refine lv_iload_n hx hb dL_cell_21 rfl (lv_at hl 1 rfl) ?_
    refine lv_sipush (v := nI 1093) hx hb dL_cell_22 (by decide) ?_
    refine lv_iadd hx hb dL_cell_25 ?_
    refine g_ti (y := nI (k + 1093)) (nI_add _ _) ?_
    refine lv_imul hx hb dL_cell_26 ?_
    refine g_ti (y := nI ((7919 * (k + 739)) * (k + 1093))) (pk_mul _ _) ?_
    exact hret _ _ _ dL_cell_27 (by unfold o_cell; first | (rw [if_pos (by omega)]; done) | (rw [if_neg (by omega)]; done))
  · skip
    have c_3 : ¬ L ≤ k := fun z => c_3 ((nI_leI (a := L) (b := k) (by omega) (by omega)).mpr z)
    refine lv_aload_n hx hb dL_cell_6 rfl (lv_at hl 0 rfl) ?_
    refine lv_iload_n hx hb dL_cell_7 rfl (lv_at hl 1 rfl) ?_
    refine va_sld hx hb hX hbl (A := fun _ => False) (fun z => z) va_S.rf (vp_in_nI (show k < L by omega) (by omega)) dL_cell_8 ?_
    refine g_ti (y := xs k) (by rw [nI_clamp (by omega)]) ?_
    refine lv_goto (tgt := 27) hx hb dL_cell_9 (by decide) ?_
    exact hret _ _ _ dL_cell_27 (by unfold o_cell; first | (rw [if_pos (by omega)]; done) | (rw [if_neg (by omega)]; done))
set_option maxHeartbeats 4000000 in
set_option maxRecDepth 100000 in
theorem c_L_act (l : Launch) (hst : l.stackTraces = false) (D : va_G) (cy : Nat → ClassId) (sa : Nat → Nat) (sz : Nat) (a q r : Nat → Nat) (x : ob_T) (y : ob_K) (hk : ob_k x y) (v : Int32) : Met l yL_act wsL_act ({ frames := 9, cells := 1, slots := 6, locals := 169 } : Room) (va_Pc [.ref (a 0), .int v] (gZ D (gT cy) sa (va_A (ob_w cy a q r x y) sz) (ob_w cy a q r x y) sz)) (va_Qi (fun (r9 : Int32) (u : ob_T × ob_K) => (r_act x v r9 u.1) ∧ ob_k u.1 u.2) (gO D (fun u : ob_T × ob_K => ob_w cy a q r u.1 u.2) (va_A (ob_w cy a q r x y) sz)) (va_A (ob_w cy a q r x y) sz)) 1 6 (va_A (ob_w cy a q r x y) sz) := by
  refine gW_z (cc := cL_act) (maxL := 8) (ty := .int) (by decide) rfl (Nat.le_of_ble_eq_true rfl) (fun v u hv => rfl) ?_
  intro pp ee ss mm bw mt cd QQ AA ls hfx hP hG hD hA hE hN9 hret hl
  obtain ⟨hx, hb, hml, hown, hts, hlocks⟩ := hfx
  have hown : ss.vm.findClass RL = some mm.cls := hown
  have hl : lv_has ls 8 [(0, .ref (a 0)), (1, .int v)] := hl
  have hS : va_S AA ss.heap ss.heap [] := va_S.rf
  obtain ⟨H, eH⟩ : ∃ H, H = ss.heap := ⟨_, rfl⟩
  obtain ⟨locs, eL⟩ : ∃ L : List Loc, L = [] := ⟨_, rfl⟩
  have hP : va_P D vwCl (ob_w cy a q r x y) H := by rw [eH]; exact hP
  have hS : va_S AA ss.heap H locs := by rw [eH, eL]; exact hS
  have goal : ∀ X Y, X = H → Y = locs → W pp l ee ({ frames := 9, cells := 1, slots := 6, locals := 169 } : Room) ss mm ([.ref (a 0), .int v] : List Value).toArray bw mt cd X Y 0 0 QQ (F0 mm 0 ls []) → W pp l ee ({ frames := 9, cells := 1, slots := 6, locals := 169 } : Room) ss mm ([.ref (a 0), .int v] : List Value).toArray bw mt cd ss.heap [] 0 0 QQ (F0 mm 0 ls []) := fun X Y hX hY h => by rw [hX, hY, eH, eL] at h; exact h
  refine goal H locs rfl rfl ?_
  clear goal eH eL
  refine lv_iload_n hx hb dL_act_0 rfl (lv_at hl 1 rfl) ?_
  refine lv_bipush (v := nI 24) hx hb dL_act_1 (by decide) ?_
  refine lv_ishr hx hb dL_act_3 ?_
  refine lv_bipush (v := nI 9) hx hb dL_act_4 (by decide) ?_
  refine gc_Si (va_runS (As := [.int (v >>> ((nI 24) &&& 31)), .int (nI 9)]) (rest := []) ⟨hx, hb, hml, hown, hts⟩ (c_L_low l D cy (v >>> ((nI 24) &&& 31)) (nI 9) (nI_ne0 (by decide) (by decide))) (va_cwS 2 hts gL_act_L_low rfl rfl rfl (by decide +kernel) ⟨Nat.le_of_ble_eq_true rfl, Nat.le_of_ble_eq_true rfl⟩) (gpSR hG (hP.sub [] rfl)) rfl rfl hl.1 rfl (lv_room (Nat.le_of_ble_eq_true rfl)) dL_act_6 ⟨Nat.zero_le _, Nat.zero_le _⟩) ?_
  refine lv_if_ne (tgt := 16) hx hb dL_act_9 (by decide) (fun c_9 => ?_) (fun c_9 => ?_)
  · skip
    refine lv_iconst (v := nI 0) hx hb dL_act_16 (by decide) ?_
    refine lv_istore_n (lv' := [(2, .int (nI 0)), (0, .ref (a 0)), (1, .int v)]) hx hb dL_act_17 rfl hl (by decide) rfl (fun ls hl => ?_)
    refine lv_iload_n hx hb dL_act_18 rfl (lv_at hl 0 rfl) ?_
    refine lv_if_eq (tgt := 34) hx hb dL_act_19 (by decide) (fun c_19 => ?_) (fun c_19 => ?_)
    · skip
      have c_19 : 0 = 0 := (nI_eq (a := 0) (b := 0) (by omega) (by omega)).mp c_19
      refine lv_iload_n hx hb dL_act_34 rfl (lv_at hl 2 rfl) ?_
      refine lv_iconst (v := nI 4) hx hb dL_act_35 (by decide) ?_
      refine lv_ishr hx hb dL_act_36 ?_
      refine lv_iconst (v := nI 2) hx hb dL_act_37 (by decide) ?_
      refine gc_Si (va_runS (As := [.int (v >>> ((nI 4) &&& 31)), .int (nI 2)]) (rest := []) ⟨hx, hb, hml, hown, hts⟩ (c_L_low l D cy (v >>> ((nI 4) &&& 31)) (nI 2) (nI_ne0 (by decide) (by decide))) (va_cwS 2 hts gL_act_L_low rfl rfl rfl (by decide +kernel) ⟨Nat.le_of_ble_eq_true rfl, Nat.le_of_ble_eq_true rfl⟩) (gpSR hG (hP.sub [] rfl)) rfl rfl hl.1 rfl (lv_room (Nat.le_of_ble_eq_true rfl)) dL_act_38 ⟨Nat.zero_le _, Nat.zero_le _⟩) ?_
      refine lv_istore_n (lv' := [(3, .int (lowI (v >>> ((nI 4) &&& 31)) (nI 2))), (2, .int (nI 0)), (0, .ref (a 0)), (1, .int v)]) hx hb dL_act_41 rfl hl (by decide) rfl (fun ls hl => ?_)
      refine lv_iload_n hx hb dL_act_42 rfl (lv_at hl 1 rfl) ?_
      refine lv_if_eq (tgt := 59) hx hb dL_act_43 (by decide) (fun c_43 => ?_) (fun c_43 => ?_)
      · skip
        have c_43 : 0 = 0 := (nI_eq (a := 0) (b := 0) (by omega) (by omega)).mp c_43
        refine lv_iload_n hx hb dL_act_59 rfl (lv_at hl 3 rfl) ?_
        refine lv_iconst (v := nI 4) hx hb dL_act_60 (by decide) ?_
        refine lv_ishr hx hb dL_act_61 ?_
        refine lv_bipush (v := nI 16) hx hb dL_act_62 (by decide) ?_
        refine gc_Si (va_runS (As := [.int (v >>> ((nI 4) &&& 31)), .int (nI 16)]) (rest := []) ⟨hx, hb, hml, hown, hts⟩ (c_L_low l D cy (v >>> ((nI 4) &&& 31)) (nI 16) (nI_ne0 (by decide) (by decide))) (va_cwS 2 hts gL_act_L_low rfl rfl rfl (by decide +kernel) ⟨Nat.le_of_ble_eq_true rfl, Nat.le_of_ble_eq_true rfl⟩) (gpSR hG (hP.sub [] rfl)) rfl rfl hl.1 rfl (lv_room (Nat.le_of_ble_eq_true rfl)) dL_act_64 ⟨Nat.zero_le _, Nat.zero_le _⟩) ?_
        refine lv_istore (lv' := [(4, .int (lowI (v >>> ((nI 4) &&& 31)) (nI 16))), (3, .int (lowI (v >>> ((nI 4) &&& 31)) (nI 2))), (2, .int (nI 0)), (0, .ref (a 0)), (1, .int v)]) hx hb dL_act_67 hl (by decide) rfl (fun ls hl => ?_)
        refine lv_iload_n hx hb dL_act_69 rfl (lv_at hl 4 rfl) ?_
        refine lv_bipush (v := nI 8) hx hb dL_act_70 (by decide) ?_
        refine lv_ishr hx hb dL_act_72 ?_
        refine lv_bipush (v := nI 12) hx hb dL_act_73 (by decide) ?_
        refine gc_Si (va_runS (As := [.int (v >>> ((nI 8) &&& 31)), .int (nI 12)]) (rest := []) ⟨hx, hb, hml, hown, hts⟩ (c_L_low l D cy (v >>> ((nI 8) &&& 31)) (nI 12) (nI_ne0 (by decide) (by decide))) (va_cwS 2 hts gL_act_L_low rfl rfl rfl (by decide +kernel) ⟨Nat.le_of_ble_eq_true rfl, Nat.le_of_ble_eq_true rfl⟩) (gpSR hG (hP.sub [] rfl)) rfl rfl hl.1 rfl (lv_room (Nat.le_of_ble_eq_true rfl)) dL_act_75 ⟨Nat.zero_le _, Nat.zero_le _⟩) ?_
        refine lv_istore (lv' := [(5, .int (lowI (v >>> ((nI 8) &&& 31)) (nI 12))), (4, .int (lowI (v >>> ((nI 4) &&& 31)) (nI 16))), (3, .int (lowI (v >>> ((nI 4) &&& 31)) (nI 2))), (2, .int (nI 0)), (0, .ref (a 0)), (1, .int v)]) hx hb dL_act_78 hl (by decide) rfl (fun ls hl => ?_)
        refine lv_iload_n hx hb dL_act_80 rfl (lv_at hl 3 rfl) ?_
        refine lv_if_eq (tgt := 96) hx hb dL_act_81 (by decide) (fun c_81 => ?_) (fun c_81 => ?_)
        · skip
          have c_81 : 0 = 0 := (nI_eq (a := 0) (b := 0) (by omega) (by omega)).mp c_81
          refine lv_iconst (v := nI 1) hx hb dL_act_96 (by decide) ?_
          refine lv_iload_n hx hb dL_act_97 rfl (lv_at hl 5 rfl) ?_
          refine lv_bipush (v := nI 12) hx hb dL_act_98 (by decide) ?_
          refine lv_ishr hx hb dL_act_100 ?_
          refine lv_iload hx hb dL_act_101 (lv_at hl 1 rfl) ?_
          refine lv_bipush (v := nI 15) hx hb dL_act_103 (by decide) ?_
          refine lv_icmp_le (tgt := 112) hx hb dL_act_105 (by decide) (fun c_105 => ?_) (fun c_105 => ?_)
          · skip
            refine lv_bipush (v := nI 16) hx hb dL_act_112 (by decide) ?_
            refine lv_iload hx hb dL_act_114 (lv_at hl 1 rfl) ?_
            refine lv_isub hx hb dL_act_116 ?_
            refine gc_Si (va_runS (As := [.int (v >>> ((nI 12) &&& 31)), .int ((nI 16) - (lowI (v >>> ((nI 4) &&& 31)) (nI 16)))]) (rest := [.int (nI 1)]) ⟨hx, hb, hml, hown, hts⟩ (c_L_low l D cy (v >>> ((nI 12) &&& 31)) ((nI 16) - (lowI (v >>> ((nI 4) &&& 31)) (nI 16))) (low_ne (by decide) (by decide))) (va_cwS 2 hts gL_act_L_low rfl rfl rfl (by decide +kernel) ⟨Nat.le_of_ble_eq_true rfl, Nat.le_of_ble_eq_true rfl⟩) (gpSR hG (hP.sub [] rfl)) rfl rfl hl.1 rfl (lv_room (Nat.le_of_ble_eq_true rfl)) dL_act_117 ⟨Nat.zero_le _, Nat.zero_le _⟩) ?_
            refine lv_iadd hx hb dL_act_120 ?_
            refine lv_istore (lv' := [(6, .int ((nI 1) + (lowI (v >>> ((nI 12) &&& 31)) ((nI 16) - (lowI (v >>> ((nI 4) &&& 31)) (nI 16)))))), (5, .int (lowI (v >>> ((nI 8) &&& 31)) (nI 12))), (4, .int (lowI (v >>> ((nI 4) &&& 31)) (nI 16))), (3, .int (lowI (v >>> ((nI 4) &&& 31)) (nI 2))), (2, .int (nI 0)), (0, .ref (a 0)), (1, .int v)]) hx hb dL_act_121 hl (by decide) rfl (fun ls hl => ?_)
            refine lv_iload_n hx hb dL_act_123 rfl (lv_at hl 4 rfl) ?_
            refine lv_if_eq (tgt := 139) hx hb dL_act_124 (by decide) (fun c_124 => ?_) (fun c_124 => ?_)
            · skip
              have c_124 : 0 = 0 := (nI_eq (a := 0) (b := 0) (by omega) (by omega)).mp c_124
              refine lv_iconst (v := nI 1) hx hb dL_act_139 (by decide) ?_
              refine lv_iload_n hx hb dL_act_140 rfl (lv_at hl 6 rfl) ?_
              refine lv_bipush (v := nI 16) hx hb dL_act_141 (by decide) ?_
              refine lv_ishr hx hb dL_act_143 ?_
              refine lv_bipush (v := nI 12) hx hb dL_act_144 (by decide) ?_
              refine lv_iload hx hb dL_act_146 (lv_at hl 1 rfl) ?_
              refine lv_isub hx hb dL_act_148 ?_
              refine gc_Si (va_runS (As := [.int (v >>> ((nI 16) &&& 31)), .int ((nI 12) - (lowI (v >>> ((nI 8) &&& 31)) (nI 12)))]) (rest := [.int (nI 1)]) ⟨hx, hb, hml, hown, hts⟩ (c_L_low l D cy (v >>> ((nI 16) &&& 31)) ((nI 12) - (lowI (v >>> ((nI 8) &&& 31)) (nI 12))) (low_ne (by decide) (by decide))) (va_cwS 2 hts gL_act_L_low rfl rfl rfl (by decide +kernel) ⟨Nat.le_of_ble_eq_true rfl, Nat.le_of_ble_eq_true rfl⟩) (gpSR hG (hP.sub [] rfl)) rfl rfl hl.1 rfl (lv_room (Nat.le_of_ble_eq_true rfl)) dL_act_149 ⟨Nat.zero_le _, Nat.zero_le _⟩) ?_
              refine lv_iadd hx hb dL_act_152 ?_
              refine lv_istore (lv' := [(7, .int ((nI 1) + (lowI (v >>> ((nI 16) &&& 31)) ((nI 12) - (lowI (v >>> ((nI 8) &&& 31)) (nI 12)))))), (6, .int ((nI 1) + (lowI (v >>> ((nI 12) &&& 31)) ((nI 16) - (lowI (v >>> ((nI 4) &&& 31)) (nI 16)))))), (5, .int (lowI (v >>> ((nI 8) &&& 31)) (nI 12))), (4, .int (lowI (v >>> ((nI 4) &&& 31)) (nI 16))), (3, .int (lowI (v >>> ((nI 4) &&& 31)) (nI 2))), (2, .int (nI 0)), (0, .ref (a 0)), (1, .int v)]) hx hb dL_act_153 hl (by decide) rfl (fun ls hl => ?_)
              refine lv_iload_n hx hb dL_act_155 rfl (lv_at hl 7 rfl) ?_
              refine lv_bipush (v := nI 10) hx hb dL_act_156 (by decide) ?_
              refine gc_Si (va_runS (As := [.int v, .int (nI 10)]) (rest := []) ⟨hx, hb, hml, hown, hts⟩ (c_L_low l D cy v (nI 10) (nI_ne0 (by decide) (by decide))) (va_cwS 2 hts gL_act_L_low rfl rfl rfl (by decide +kernel) ⟨Nat.le_of_ble_eq_true rfl, Nat.le_of_ble_eq_true rfl⟩) (gpSR hG (hP.sub [] rfl)) rfl rfl hl.1 rfl (lv_room (Nat.le_of_ble_eq_true rfl)) dL_act_158 ⟨Nat.zero_le _, Nat.zero_le _⟩) ?_
              rcases (show (lowI v (nI 10)).toInt = 0 ∨ (lowI v (nI 10)).toInt = 1 ∨ (lowI v (nI 10)).toInt = 2 ∨ (lowI v (nI 10)).toInt = 3 ∨ (lowI v (nI 10)).toInt = 4 ∨ (lowI v (nI 10)).toInt = 5 ∨ (lowI v (nI 10)).toInt = 6 ∨ ((lowI v (nI 10)).toInt < 0 ∨ 6 < (lowI v (nI 10)).toInt) from by omega) with h_161 | h_161 | h_161 | h_161 | h_161 | h_161 | h_161 | h_161
              · skip
                refine lv_tableIn (tgt := 204) (off := 43) hx hb dL_act_161 (by rw [h_161]; decide) (by rw [h_161]; decide) (by rw [h_161]; rfl) (by decide) ?_
                refine lv_iload_n hx hb dL_act_204 rfl (lv_at hl 7 rfl) ?_
                refine lv_bipush (v := nI 8) hx hb dL_act_205 (by decide) ?_
                refine lv_ishr hx hb dL_act_207 ?_
                refine lv_iconst (v := nI 4) hx hb dL_act_208 (by decide) ?_
                refine gc_Si (va_runS (As := [.int (v >>> ((nI 8) &&& 31)), .int (nI 4)]) (rest := []) ⟨hx, hb, hml, hown, hts⟩ (c_L_low l D cy (v >>> ((nI 8) &&& 31)) (nI 4) (nI_ne0 (by decide) (by decide))) (va_cwS 2 hts gL_act_L_low rfl rfl rfl (by decide +kernel) ⟨Nat.le_of_ble_eq_true rfl, Nat.le_of_ble_eq_true rfl⟩) (gpSR hG (hP.sub [] rfl)) rfl rfl hl.1 rfl (lv_room (Nat.le_of_ble_eq_true rfl)) dL_act_209 ⟨Nat.zero_le _, Nat.zero_le _⟩) ?_
                refine lv_if_ne (tgt := 223) hx hb dL_act_212 (by decide) (fun c_212 => ?_) (fun c_212 => ?_)
                · skip
                  refine lv_aload_n hx hb dL_act_223 rfl (lv_at hl 6 rfl) ?_
                  refine lv_iload_n hx hb dL_act_224 rfl (lv_at hl 4 rfl) ?_
                  refine gc_Zi (wn := fun u : ob_T × ob_K => ob_w cy a q r u.1 u.2) (wr := []) (vx_runSW (As := [.ref (a 0), .int (lowI (v >>> ((nI 4) &&& 31)) (nI 2))]) (rest := []) ⟨hx, hb, hml, hown, hts⟩ (c_L_answer l hst D cy sa H.size a q r x y hk (lowI (v >>> ((nI 4) &&& 31)) (nI 2))) (vx_cwSW 2 hts gL_act_L_answer rfl rfl rfl (by decide +kernel) ⟨Nat.le_of_ble_eq_true rfl, Nat.le_of_ble_eq_true rfl⟩) (gpSZ hG hE hN9 hP hD hS hA [0, 1, 2, 3, 4, 5, 6, 7, 8, 9, 10, 11, 12, 13, 14, 15, 16, 17, 18, 19, 20, 21, 22, 23, 24, 25, 26] rfl (by decide)) rfl rfl hl.1 rfl (lv_room (Nat.le_of_ble_eq_true rfl)) dL_act_225 ⟨Nat.le_of_ble_eq_true rfl, Nat.le_of_ble_eq_true rfl⟩) hP hD hS hA [0, 1, 2, 3, 4, 5, 6, 7, 8, 9, 10, 11, 12, 13, 14, 15, 16, 17, 18, 19, 20, 21, 22, 23, 24, 25, 26] [] [0, 1, 2, 3, 4, 5, 6, 7, 8, 9, 10, 11, 12, 13, 14, 15, 16, 17, 18, 19, 20, 21, 22, 23, 24, 25, 26] rfl rfl (by decide) (by decide) (fun _ => rfl) (by decide) (fun r_225 u H locs hw_225 hP hD hS => ?_)
                  exact hret _ _ _ _ _ _ _ u dL_act_228 ⟨⟨_, _, _, _, _, _, _, _, Or.inr ⟨c_9, rfl, rfl, rfl, rfl, rfl, rfl, rfl, rfl⟩, Or.inr (Or.inl ⟨Or.inl ⟨h_161, c_212⟩, hw_225.1⟩)⟩, hw_225.2⟩ hP hD hS (Nat.le_of_ble_eq_true rfl) (Nat.le_of_ble_eq_true rfl)
                · skip
                  refine lv_aload_n hx hb dL_act_215 rfl (lv_at hl 6 rfl) ?_
                  refine lv_iload_n hx hb dL_act_216 rfl (lv_at hl 4 rfl) ?_
                  refine gc_Zi (wn := fun u : ob_T × ob_K => ob_w cy a q r u.1 u.2) (wr := []) (vx_runSW (As := [.ref (a 0), .int (lowI (v >>> ((nI 4) &&& 31)) (nI 2))]) (rest := []) ⟨hx, hb, hml, hown, hts⟩ (c_L_join l hst D cy sa H.size a q r x y hk (lowI (v >>> ((nI 4) &&& 31)) (nI 2))) (vx_cwSW 2 hts gL_act_L_join rfl rfl rfl (by decide +kernel) ⟨Nat.le_of_ble_eq_true rfl, Nat.le_of_ble_eq_true rfl⟩) (gpSZ hG hE hN9 hP hD hS hA [0, 1, 2, 3, 4, 5, 6, 7, 8, 9, 10, 11, 12, 13, 14, 15, 16, 17, 18, 19, 20, 21, 22, 23, 24, 25, 26] rfl (by decide)) rfl rfl hl.1 rfl (lv_room (Nat.le_of_ble_eq_true rfl)) dL_act_217 ⟨Nat.le_of_ble_eq_true rfl, Nat.le_of_ble_eq_true rfl⟩) hP hD hS hA [0, 1, 2, 3, 4, 5, 6, 7, 8, 9, 10, 11, 12, 13, 14, 15, 16, 17, 18, 19, 20, 21, 22, 23, 24, 25, 26] [] [0, 1, 2, 3, 4, 5, 6, 7, 8, 9, 10, 11, 12, 13, 14, 15, 16, 17, 18, 19, 20, 21, 22, 23, 24, 25, 26] rfl rfl (by decide) (by decide) (fun _ => rfl) (by decide) (fun r_217 u H locs hw_217 hP hD hS => ?_)
                  refine lv_goto (tgt := 228) hx hb dL_act_220 (by decide) ?_
                  exact hret _ _ _ _ _ _ _ u dL_act_228 ⟨⟨_, _, _, _, _, _, _, _, Or.inr ⟨c_9, rfl, rfl, rfl, rfl, rfl, rfl, rfl, rfl⟩, Or.inl ⟨h_161, c_212, hw_217.1⟩⟩, hw_217.2⟩ hP hD hS (Nat.le_of_ble_eq_true rfl) (Nat.le_of_ble_eq_true rfl)
              · skip
                refine lv_tableIn (tgt := 229) (off := 68) hx hb dL_act_161 (by rw [h_161]; decide) (by rw [h_161]; decide) (by rw [h_161]; rfl) (by decide) ?_
                refine lv_aload_n hx hb dL_act_229 rfl (lv_at hl 6 rfl) ?_
                refine lv_iload_n hx hb dL_act_230 rfl (lv_at hl 4 rfl) ?_
                refine gc_Zi (wn := fun u : ob_T × ob_K => ob_w cy a q r u.1 u.2) (wr := []) (vx_runSW (As := [.ref (a 0), .int (lowI (v >>> ((nI 4) &&& 31)) (nI 2))]) (rest := []) ⟨hx, hb, hml, hown, hts⟩ (c_L_answer l hst D cy sa H.size a q r x y hk (lowI (v >>> ((nI 4) &&& 31)) (nI 2))) (vx_cwSW 2 hts gL_act_L_answer rfl rfl rfl (by decide +kernel) ⟨Nat.le_of_ble_eq_true rfl, Nat.le_of_ble_eq_true rfl⟩) (gpSZ hG hE hN9 hP hD hS hA [0, 1, 2, 3, 4, 5, 6, 7, 8, 9, 10, 11, 12, 13, 14, 15, 16, 17, 18, 19, 20, 21, 22, 23, 24, 25, 26] rfl (by decide)) rfl rfl hl.1 rfl (lv_room (Nat.le_of_ble_eq_true rfl)) dL_act_231 ⟨Nat.le_of_ble_eq_true rfl, Nat.le_of_ble_eq_true rfl⟩) hP hD hS hA [0, 1, 2, 3, 4, 5, 6, 7, 8, 9, 10, 11, 12, 13, 14, 15, 16, 17, 18, 19, 20, 21, 22, 23, 24, 25, 26] [] [0, 1, 2, 3, 4, 5, 6, 7, 8, 9, 10, 11, 12, 13, 14, 15, 16, 17, 18, 19, 20, 21, 22, 23, 24, 25, 26] rfl rfl (by decide) (by decide) (fun _ => rfl) (by decide) (fun r_231 u H locs hw_231 hP hD hS => ?_)
                exact hret _ _ _ _ _ _ _ u dL_act_234 ⟨⟨_, _, _, _, _, _, _, _, Or.inr ⟨c_9, rfl, rfl, rfl, rfl, rfl, rfl, rfl, rfl⟩, Or.inr (Or.inl ⟨by first | exact Or.inr (Or.inl h_161) | exact Or.inr (Or.inr h_161), hw_231.1⟩)⟩, hw_231.2⟩ hP hD hS (Nat.le_of_ble_eq_true rfl) (Nat.le_of_ble_eq_true rfl)
              · skip
                refine lv_tableIn (tgt := 229) (off := 68) hx hb dL_act_161 (by rw [h_161]; decide) (by rw [h_161]; decide) (by rw [h_161]; rfl) (by decide) ?_
                refine lv_aload_n hx hb dL_act_229 rfl (lv_at hl 6 rfl) ?_
                refine lv_iload_n hx hb dL_act_230 rfl (lv_at hl 4 rfl) ?_
                refine gc_Zi (wn := fun u : ob_T × ob_K => ob_w cy a q r u.1 u.2) (wr := []) (vx_runSW (As := [.ref (a 0), .int (lowI (v >>> ((nI 4) &&& 31)) (nI 2))]) (rest := []) ⟨hx, hb, hml, hown, hts⟩ (c_L_answer l hst D cy sa H.size a q r x y hk (lowI (v >>> ((nI 4) &&& 31)) (nI 2))) (vx_cwSW 2 hts gL_act_L_answer rfl rfl rfl (by decide +kernel) ⟨Nat.le_of_ble_eq_true rfl, Nat.le_of_ble_eq_true rfl⟩) (gpSZ hG hE hN9 hP hD hS hA [0, 1, 2, 3, 4, 5, 6, 7, 8, 9, 10, 11, 12, 13, 14, 15, 16, 17, 18, 19, 20, 21, 22, 23, 24, 25, 26] rfl (by decide)) rfl rfl hl.1 rfl (lv_room (Nat.le_of_ble_eq_true rfl)) dL_act_231 ⟨Nat.le_of_ble_eq_true rfl, Nat.le_of_ble_eq_true rfl⟩) hP hD hS hA [0, 1, 2, 3, 4, 5, 6, 7, 8, 9, 10, 11, 12, 13, 14, 15, 16, 17, 18, 19, 20, 21, 22, 23, 24, 25, 26] [] [0, 1, 2, 3, 4, 5, 6, 7, 8, 9, 10, 11, 12, 13, 14, 15, 16, 17, 18, 19, 20, 21, 22, 23, 24, 25, 26] rfl rfl (by decide) (by decide) (fun _ => rfl) (by decide) (fun r_231 u H locs hw_231 hP hD hS => ?_)
                exact hret _ _ _ _ _ _ _ u dL_act_234 ⟨⟨_, _, _, _, _, _, _, _, Or.inr ⟨c_9, rfl, rfl, rfl, rfl, rfl, rfl, rfl, rfl⟩, Or.inr (Or.inl ⟨by first | exact Or.inr (Or.inl h_161) | exact Or.inr (Or.inr h_161), hw_231.1⟩)⟩, hw_231.2⟩ hP hD hS (Nat.le_of_ble_eq_true rfl) (Nat.le_of_ble_eq_true rfl)
              · skip
                refine lv_tableIn (tgt := 235) (off := 74) hx hb dL_act_161 (by rw [h_161]; decide) (by rw [h_161]; decide) (by rw [h_161]; rfl) (by decide) ?_
                refine lv_aload_n hx hb dL_act_235 rfl (lv_at hl 6 rfl) ?_
                refine lv_iload_n hx hb dL_act_236 rfl (lv_at hl 4 rfl) ?_
                refine lv_iload_n hx hb dL_act_237 rfl (lv_at hl 5 rfl) ?_
                refine lv_if_eq (tgt := 256) hx hb dL_act_238 (by decide) (fun c_238 => ?_) (fun c_238 => ?_)
                · skip
                  have c_238 : 0 = 0 := (nI_eq (a := 0) (b := 0) (by omega) (by omega)).mp c_238
                  refine lv_iload_n hx hb dL_act_256 rfl (lv_at hl 7 rfl) ?_
                  refine lv_bipush (v := nI 6) hx hb dL_act_257 (by decide) ?_
                  refine lv_ishr hx hb dL_act_259 ?_
                  refine lv_bipush (v := nI 120) hx hb dL_act_260 (by decide) ?_
                  refine gc_Si (va_runS (As := [.int (v >>> ((nI 6) &&& 31)), .int (nI 120)]) (rest := [.int (lowI (v >>> ((nI 4) &&& 31)) (nI 2)), .ref (a 0)]) ⟨hx, hb, hml, hown, hts⟩ (c_L_low l D cy (v >>> ((nI 6) &&& 31)) (nI 120) (nI_ne0 (by decide) (by decide))) (va_cwS 2 hts gL_act_L_low rfl rfl rfl (by decide +kernel) ⟨Nat.le_of_ble_eq_true rfl, Nat.le_of_ble_eq_true rfl⟩) (gpSR hG (hP.sub [] rfl)) rfl rfl hl.1 rfl (lv_room (Nat.le_of_ble_eq_true rfl)) dL_act_262 ⟨Nat.zero_le _, Nat.zero_le _⟩) ?_
                  refine gc_Zi (wn := fun u : ob_T × ob_K => ob_w cy a q r u.1 u.2) (wr := []) (vx_runSW (As := [.ref (a 0), .int (lowI (v >>> ((nI 4) &&& 31)) (nI 2)), .int (lowI (v >>> ((nI 6) &&& 31)) (nI 120))]) (rest := []) ⟨hx, hb, hml, hown, hts⟩ (c_L_ask l hst D cy sa H.size a q r x y hk (lowI (v >>> ((nI 4) &&& 31)) (nI 2)) (lowI (v >>> ((nI 6) &&& 31)) (nI 120))) (vx_cwSW 3 hts gL_act_L_ask rfl rfl rfl (by decide +kernel) ⟨Nat.le_of_ble_eq_true rfl, Nat.le_of_ble_eq_true rfl⟩) (gpSZ hG hE hN9 hP hD hS hA [0, 1, 2, 3, 4, 5, 6, 7, 8, 9, 10, 11, 12, 13, 14, 15, 16, 17, 18, 19, 20, 21, 22, 23, 24, 25, 26] rfl (by decide)) rfl rfl hl.1 rfl (lv_room (Nat.le_of_ble_eq_true rfl)) dL_act_265 ⟨Nat.le_of_ble_eq_true rfl, Nat.le_of_ble_eq_true rfl⟩) hP hD hS hA [0, 1, 2, 3, 4, 5, 6, 7, 8, 9, 10, 11, 12, 13, 14, 15, 16, 17, 18, 19, 20, 21, 22, 23, 24, 25, 26] [] [0, 1, 2, 3, 4, 5, 6, 7, 8, 9, 10, 11, 12, 13, 14, 15, 16, 17, 18, 19, 20, 21, 22, 23, 24, 25, 26] rfl rfl (by decide) (by decide) (fun _ => rfl) (by decide) (fun r_265 u H locs hw_265 hP hD hS => ?_)
                  exact hret _ _ _ _ _ _ _ u dL_act_268 ⟨⟨_, _, _, _, _, _, _, _, Or.inr ⟨c_9, rfl, rfl, rfl, rfl, rfl, rfl, rfl, rfl⟩, Or.inr (Or.inr (Or.inl ⟨by first | exact Or.inl h_161 | exact Or.inr h_161, hw_265.1⟩))⟩, hw_265.2⟩ hP hD hS (Nat.le_of_ble_eq_true rfl) (Nat.le_of_ble_eq_true rfl)
                · skip
                  have c_238 : ¬ 0 = 0 := fun z => c_238 ((nI_eq (a := 0) (b := 0) (by omega) (by omega)).mpr z)
                  exact absurd c_238 (by decide)
              · skip
                refine lv_tableIn (tgt := 235) (off := 74) hx hb dL_act_161 (by rw [h_161]; decide) (by rw [h_161]; decide) (by rw [h_161]; rfl) (by decide) ?_
                refine lv_aload_n hx hb dL_act_235 rfl (lv_at hl 6 rfl) ?_
                refine lv_iload_n hx hb dL_act_236 rfl (lv_at hl 4 rfl) ?_
                refine lv_iload_n hx hb dL_act_237 rfl (lv_at hl 5 rfl) ?_
                refine lv_if_eq (tgt := 256) hx hb dL_act_238 (by decide) (fun c_238 => ?_) (fun c_238 => ?_)
                · skip
                  have c_238 : 0 = 0 := (nI_eq (a := 0) (b := 0) (by omega) (by omega)).mp c_238
                  refine lv_iload_n hx hb dL_act_256 rfl (lv_at hl 7 rfl) ?_
                  refine lv_bipush (v := nI 6) hx hb dL_act_257 (by decide) ?_
                  refine lv_ishr hx hb dL_act_259 ?_
                  refine lv_bipush (v := nI 120) hx hb dL_act_260 (by decide) ?_
                  refine gc_Si (va_runS (As := [.int (v >>> ((nI 6) &&& 31)), .int (nI 120)]) (rest := [.int (lowI (v >>> ((nI 4) &&& 31)) (nI 2)), .ref (a 0)]) ⟨hx, hb, hml, hown, hts⟩ (c_L_low l D cy (v >>> ((nI 6) &&& 31)) (nI 120) (nI_ne0 (by decide) (by decide))) (va_cwS 2 hts gL_act_L_low rfl rfl rfl (by decide +kernel) ⟨Nat.le_of_ble_eq_true rfl, Nat.le_of_ble_eq_true rfl⟩) (gpSR hG (hP.sub [] rfl)) rfl rfl hl.1 rfl (lv_room (Nat.le_of_ble_eq_true rfl)) dL_act_262 ⟨Nat.zero_le _, Nat.zero_le _⟩) ?_
                  refine gc_Zi (wn := fun u : ob_T × ob_K => ob_w cy a q r u.1 u.2) (wr := []) (vx_runSW (As := [.ref (a 0), .int (lowI (v >>> ((nI 4) &&& 31)) (nI 2)), .int (lowI (v >>> ((nI 6) &&& 31)) (nI 120))]) (rest := []) ⟨hx, hb, hml, hown, hts⟩ (c_L_ask l hst D cy sa H.size a q r x y hk (lowI (v >>> ((nI 4) &&& 31)) (nI 2)) (lowI (v >>> ((nI 6) &&& 31)) (nI 120))) (vx_cwSW 3 hts gL_act_L_ask rfl rfl rfl (by decide +kernel) ⟨Nat.le_of_ble_eq_true rfl, Nat.le_of_ble_eq_true rfl⟩) (gpSZ hG hE hN9 hP hD hS hA [0, 1, 2, 3, 4, 5, 6, 7, 8, 9, 10, 11, 12, 13, 14, 15, 16, 17, 18, 19, 20, 21, 22, 23, 24, 25, 26] rfl (by decide)) rfl rfl hl.1 rfl (lv_room (Nat.le_of_ble_eq_true rfl)) dL_act_265 ⟨Nat.le_of_ble_eq_true rfl, Nat.le_of_ble_eq_true rfl⟩) hP hD hS hA [0, 1, 2, 3, 4, 5, 6, 7, 8, 9, 10, 11, 12, 13, 14, 15, 16, 17, 18, 19, 20, 21, 22, 23, 24, 25, 26] [] [0, 1, 2, 3, 4, 5, 6, 7, 8, 9, 10, 11, 12, 13, 14, 15, 16, 17, 18, 19, 20, 21, 22, 23, 24, 25, 26] rfl rfl (by decide) (by decide) (fun _ => rfl) (by decide) (fun r_265 u H locs hw_265 hP hD hS => ?_)
                  exact hret _ _ _ _ _ _ _ u dL_act_268 ⟨⟨_, _, _, _, _, _, _, _, Or.inr ⟨c_9, rfl, rfl, rfl, rfl, rfl, rfl, rfl, rfl⟩, Or.inr (Or.inr (Or.inl ⟨by first | exact Or.inl h_161 | exact Or.inr h_161, hw_265.1⟩))⟩, hw_265.2⟩ hP hD hS (Nat.le_of_ble_eq_true rfl) (Nat.le_of_ble_eq_true rfl)
                · skip
                  have c_238 : ¬ 0 = 0 := fun z => c_238 ((nI_eq (a := 0) (b := 0) (by omega) (by omega)).mpr z)
                  exact absurd c_238 (by decide)
              · skip
                refine lv_tableIn (tgt := 269) (off := 108) hx hb dL_act_161 (by rw [h_161]; decide) (by rw [h_161]; decide) (by rw [h_161]; rfl) (by decide) ?_
                refine lv_aload_n hx hb dL_act_269 rfl (lv_at hl 6 rfl) ?_
                refine lv_iload hx hb dL_act_270 (lv_at hl 3 rfl) ?_
                refine lv_iload hx hb dL_act_272 (lv_at hl 2 rfl) ?_
                refine lv_iload hx hb dL_act_274 (lv_at hl 1 rfl) ?_
                refine lv_iload hx hb dL_act_276 (lv_at hl 0 rfl) ?_
                refine lv_iload_n hx hb dL_act_278 rfl (lv_at hl 7 rfl) ?_
                refine lv_bipush (v := nI 20) hx hb dL_act_279 (by decide) ?_
                refine lv_ishr hx hb dL_act_281 ?_
                refine lv_iload_n hx hb dL_act_282 rfl (lv_at hl 5 rfl) ?_
                refine lv_if_eq (tgt := 291) hx hb dL_act_283 (by decide) (fun c_283 => ?_) (fun c_283 => ?_)
                · skip
                  have c_283 : 0 = 0 := (nI_eq (a := 0) (b := 0) (by omega) (by omega)).mp c_283
                  refine lv_bipush (v := nI 31) hx hb dL_act_291 (by decide) ?_
                  refine gc_Si (va_runS (As := [.int (v >>> ((nI 20) &&& 31)), .int (nI 31)]) (rest := [.int ((nI 1) + (lowI (v >>> ((nI 16) &&& 31)) ((nI 12) - (lowI (v >>> ((nI 8) &&& 31)) (nI 12))))), .int ((nI 1) + (lowI (v >>> ((nI 12) &&& 31)) ((nI 16) - (lowI (v >>> ((nI 4) &&& 31)) (nI 16))))), .int (lowI (v >>> ((nI 8) &&& 31)) (nI 12)), .int (lowI (v >>> ((nI 4) &&& 31)) (nI 16)), .ref (a 0)]) ⟨hx, hb, hml, hown, hts⟩ (c_L_low l D cy (v >>> ((nI 20) &&& 31)) (nI 31) (nI_ne0 (by decide) (by decide))) (va_cwS 2 hts gL_act_L_low rfl rfl rfl (by decide +kernel) ⟨Nat.le_of_ble_eq_true rfl, Nat.le_of_ble_eq_true rfl⟩) (gpSR hG (hP.sub [] rfl)) rfl rfl hl.1 rfl (lv_room (Nat.le_of_ble_eq_true rfl)) dL_act_293 ⟨Nat.zero_le _, Nat.zero_le _⟩) ?_
                  refine lv_iload_n hx hb dL_act_296 rfl (lv_at hl 5 rfl) ?_
                  refine lv_if_eq (tgt := 305) hx hb dL_act_297 (by decide) (fun c_297 => ?_) (fun c_297 => ?_)
                  · skip
                    have c_297 : 0 = 0 := (nI_eq (a := 0) (b := 0) (by omega) (by omega)).mp c_297
                    refine lv_bipush (v := nI 15) hx hb dL_act_305 (by decide) ?_
                    refine lv_isub hx hb dL_act_307 ?_
                    refine lv_iload_n hx hb dL_act_308 rfl (lv_at hl 7 rfl) ?_
                    refine lv_bipush (v := nI 9) hx hb dL_act_309 (by decide) ?_
                    refine lv_ishr hx hb dL_act_311 ?_
                    refine lv_bipush (v := nI 23) hx hb dL_act_312 (by decide) ?_
                    refine gc_Si (va_runS (As := [.int (v >>> ((nI 9) &&& 31)), .int (nI 23)]) (rest := [.int ((lowI (v >>> ((nI 20) &&& 31)) (nI 31)) - (nI 15)), .int ((nI 1) + (lowI (v >>> ((nI 16) &&& 31)) ((nI 12) - (lowI (v >>> ((nI 8) &&& 31)) (nI 12))))), .int ((nI 1) + (lowI (v >>> ((nI 12) &&& 31)) ((nI 16) - (lowI (v >>> ((nI 4) &&& 31)) (nI 16))))), .int (lowI (v >>> ((nI 8) &&& 31)) (nI 12)), .int (lowI (v >>> ((nI 4) &&& 31)) (nI 16)), .ref (a 0)]) ⟨hx, hb, hml, hown, hts⟩ (c_L_low l D cy (v >>> ((nI 9) &&& 31)) (nI 23) (nI_ne0 (by decide) (by decide))) (va_cwS 2 hts gL_act_L_low rfl rfl rfl (by decide +kernel) ⟨Nat.le_of_ble_eq_true rfl, Nat.le_of_ble_eq_true rfl⟩) (gpSR hG (hP.sub [] rfl)) rfl rfl hl.1 rfl (lv_room (Nat.le_of_ble_eq_true rfl)) dL_act_314 ⟨Nat.zero_le _, Nat.zero_le _⟩) ?_
                    refine lv_bipush (v := nI 11) hx hb dL_act_317 (by decide) ?_
                    refine lv_isub hx hb dL_act_319 ?_
                    refine gc_Zi (wn := fun u : ob_T × ob_K => ob_w cy a q r u.1 u.2) (wr := []) (vx_runSW (As := [.ref (a 0), .int (lowI (v >>> ((nI 4) &&& 31)) (nI 16)), .int (lowI (v >>> ((nI 8) &&& 31)) (nI 12)), .int ((nI 1) + (lowI (v >>> ((nI 12) &&& 31)) ((nI 16) - (lowI (v >>> ((nI 4) &&& 31)) (nI 16))))), .int ((nI 1) + (lowI (v >>> ((nI 16) &&& 31)) ((nI 12) - (lowI (v >>> ((nI 8) &&& 31)) (nI 12))))), .int ((lowI (v >>> ((nI 20) &&& 31)) (nI 31)) - (nI 15)), .int ((lowI (v >>> ((nI 9) &&& 31)) (nI 23)) - (nI 11))]) (rest := []) ⟨hx, hb, hml, hown, hts⟩ (c_L_copy l hst D cy sa H.size a q r x y hk (lowI (v >>> ((nI 4) &&& 31)) (nI 16)) (lowI (v >>> ((nI 8) &&& 31)) (nI 12)) ((nI 1) + (lowI (v >>> ((nI 12) &&& 31)) ((nI 16) - (lowI (v >>> ((nI 4) &&& 31)) (nI 16))))) ((nI 1) + (lowI (v >>> ((nI 16) &&& 31)) ((nI 12) - (lowI (v >>> ((nI 8) &&& 31)) (nI 12))))) ((lowI (v >>> ((nI 20) &&& 31)) (nI 31)) - (nI 15)) ((lowI (v >>> ((nI 9) &&& 31)) (nI 23)) - (nI 11))) (vx_cwSW 7 hts gL_act_L_copy rfl rfl rfl (by decide +kernel) ⟨Nat.le_of_ble_eq_true rfl, Nat.le_of_ble_eq_true rfl⟩) (gpSZ hG hE hN9 hP hD hS hA [0, 1, 2, 3, 4, 5, 6, 7, 8, 9, 10, 11, 12, 13, 14, 15, 16, 17, 18, 19, 20, 21, 22, 23, 24, 25, 26] rfl (by decide)) rfl rfl hl.1 rfl (lv_room (Nat.le_of_ble_eq_true rfl)) dL_act_320 ⟨Nat.le_of_ble_eq_true rfl, Nat.le_of_ble_eq_true rfl⟩) hP hD hS hA [0, 1, 2, 3, 4, 5, 6, 7, 8, 9, 10, 11, 12, 13, 14, 15, 16, 17, 18, 19, 20, 21, 22, 23, 24, 25, 26] [] [0, 1, 2, 3, 4, 5, 6, 7, 8, 9, 10, 11, 12, 13, 14, 15, 16, 17, 18, 19, 20, 21, 22, 23, 24, 25, 26] rfl rfl (by decide) (by decide) (fun _ => rfl) (by decide) (fun r_320 u H locs hw_320 hP hD hS => ?_)
                    exact hret _ _ _ _ _ _ _ u dL_act_323 ⟨⟨_, _, _, _, _, _, _, _, Or.inr ⟨c_9, rfl, rfl, rfl, rfl, rfl, rfl, rfl, rfl⟩, Or.inr (Or.inr (Or.inr (Or.inl ⟨by first | exact Or.inl h_161 | exact Or.inr h_161, hw_320.1⟩)))⟩, hw_320.2⟩ hP hD hS (Nat.le_of_ble_eq_true rfl) (Nat.le_of_ble_eq_true rfl)
                  · skip
                    have c_297 : ¬ 0 = 0 := fun z => c_297 ((nI_eq (a := 0) (b := 0) (by omega) (by omega)).mpr z)
                    exact absurd c_297 (by decide)
                · skip
                  have c_283 : ¬ 0 = 0 := fun z => c_283 ((nI_eq (a := 0) (b := 0) (by omega) (by omega)).mpr z)
                  exact absurd c_283 (by decide)
              · skip
                refine lv_tableIn (tgt := 269) (off := 108) hx hb dL_act_161 (by rw [h_161]; decide) (by rw [h_161]; decide) (by rw [h_161]; rfl) (by decide) ?_
                refine lv_aload_n hx hb dL_act_269 rfl (lv_at hl 6 rfl) ?_
                refine lv_iload hx hb dL_act_270 (lv_at hl 3 rfl) ?_
                refine lv_iload hx hb dL_act_272 (lv_at hl 2 rfl) ?_
                refine lv_iload hx hb dL_act_274 (lv_at hl 1 rfl) ?_
                refine lv_iload hx hb dL_act_276 (lv_at hl 0 rfl) ?_
                refine lv_iload_n hx hb dL_act_278 rfl (lv_at hl 7 rfl) ?_
                refine lv_bipush (v := nI 20) hx hb dL_act_279 (by decide) ?_
                refine lv_ishr hx hb dL_act_281 ?_
                refine lv_iload_n hx hb dL_act_282 rfl (lv_at hl 5 rfl) ?_
                refine lv_if_eq (tgt := 291) hx hb dL_act_283 (by decide) (fun c_283 => ?_) (fun c_283 => ?_)
                · skip
                  have c_283 : 0 = 0 := (nI_eq (a := 0) (b := 0) (by omega) (by omega)).mp c_283
                  refine lv_bipush (v := nI 31) hx hb dL_act_291 (by decide) ?_
                  refine gc_Si (va_runS (As := [.int (v >>> ((nI 20) &&& 31)), .int (nI 31)]) (rest := [.int ((nI 1) + (lowI (v >>> ((nI 16) &&& 31)) ((nI 12) - (lowI (v >>> ((nI 8) &&& 31)) (nI 12))))), .int ((nI 1) + (lowI (v >>> ((nI 12) &&& 31)) ((nI 16) - (lowI (v >>> ((nI 4) &&& 31)) (nI 16))))), .int (lowI (v >>> ((nI 8) &&& 31)) (nI 12)), .int (lowI (v >>> ((nI 4) &&& 31)) (nI 16)), .ref (a 0)]) ⟨hx, hb, hml, hown, hts⟩ (c_L_low l D cy (v >>> ((nI 20) &&& 31)) (nI 31) (nI_ne0 (by decide) (by decide))) (va_cwS 2 hts gL_act_L_low rfl rfl rfl (by decide +kernel) ⟨Nat.le_of_ble_eq_true rfl, Nat.le_of_ble_eq_true rfl⟩) (gpSR hG (hP.sub [] rfl)) rfl rfl hl.1 rfl (lv_room (Nat.le_of_ble_eq_true rfl)) dL_act_293 ⟨Nat.zero_le _, Nat.zero_le _⟩) ?_
                  refine lv_iload_n hx hb dL_act_296 rfl (lv_at hl 5 rfl) ?_
                  refine lv_if_eq (tgt := 305) hx hb dL_act_297 (by decide) (fun c_297 => ?_) (fun c_297 => ?_)
                  · skip
                    have c_297 : 0 = 0 := (nI_eq (a := 0) (b := 0) (by omega) (by omega)).mp c_297
                    refine lv_bipush (v := nI 15) hx hb dL_act_305 (by decide) ?_
                    refine lv_isub hx hb dL_act_307 ?_
                    refine lv_iload_n hx hb dL_act_308 rfl (lv_at hl 7 rfl) ?_
                    refine lv_bipush (v := nI 9) hx hb dL_act_309 (by decide) ?_
                    refine lv_ishr hx hb dL_act_311 ?_
                    refine lv_bipush (v := nI 23) hx hb dL_act_312 (by decide) ?_
                    refine gc_Si (va_runS (As := [.int (v >>> ((nI 9) &&& 31)), .int (nI 23)]) (rest := [.int ((lowI (v >>> ((nI 20) &&& 31)) (nI 31)) - (nI 15)), .int ((nI 1) + (lowI (v >>> ((nI 16) &&& 31)) ((nI 12) - (lowI (v >>> ((nI 8) &&& 31)) (nI 12))))), .int ((nI 1) + (lowI (v >>> ((nI 12) &&& 31)) ((nI 16) - (lowI (v >>> ((nI 4) &&& 31)) (nI 16))))), .int (lowI (v >>> ((nI 8) &&& 31)) (nI 12)), .int (lowI (v >>> ((nI 4) &&& 31)) (nI 16)), .ref (a 0)]) ⟨hx, hb, hml, hown, hts⟩ (c_L_low l D cy (v >>> ((nI 9) &&& 31)) (nI 23) (nI_ne0 (by decide) (by decide))) (va_cwS 2 hts gL_act_L_low rfl rfl rfl (by decide +kernel) ⟨Nat.le_of_ble_eq_true rfl, Nat.le_of_ble_eq_true rfl⟩) (gpSR hG (hP.sub [] rfl)) rfl rfl hl.1 rfl (lv_room (Nat.le_of_ble_eq_true rfl)) dL_act_314 ⟨Nat.zero_le _, Nat.zero_le _⟩) ?_
                    refine lv_bipush (v := nI 11) hx hb dL_act_317 (by decide) ?_
                    refine lv_isub hx hb dL_act_319 ?_
                    refine gc_Zi (wn := fun u : ob_T × ob_K => ob_w cy a q r u.1 u.2) (wr := []) (vx_runSW (As := [.ref (a 0), .int (lowI (v >>> ((nI 4) &&& 31)) (nI 16)), .int (lowI (v >>> ((nI 8) &&& 31)) (nI 12)), .int ((nI 1) + (lowI (v >>> ((nI 12) &&& 31)) ((nI 16) - (lowI (v >>> ((nI 4) &&& 31)) (nI 16))))), .int ((nI 1) + (lowI (v >>> ((nI 16) &&& 31)) ((nI 12) - (lowI (v >>> ((nI 8) &&& 31)) (nI 12))))), .int ((lowI (v >>> ((nI 20) &&& 31)) (nI 31)) - (nI 15)), .int ((lowI (v >>> ((nI 9) &&& 31)) (nI 23)) - (nI 11))]) (rest := []) ⟨hx, hb, hml, hown, hts⟩ (c_L_copy l hst D cy sa H.size a q r x y hk (lowI (v >>> ((nI 4) &&& 31)) (nI 16)) (lowI (v >>> ((nI 8) &&& 31)) (nI 12)) ((nI 1) + (lowI (v >>> ((nI 12) &&& 31)) ((nI 16) - (lowI (v >>> ((nI 4) &&& 31)) (nI 16))))) ((nI 1) + (lowI (v >>> ((nI 16) &&& 31)) ((nI 12) - (lowI (v >>> ((nI 8) &&& 31)) (nI 12))))) ((lowI (v >>> ((nI 20) &&& 31)) (nI 31)) - (nI 15)) ((lowI (v >>> ((nI 9) &&& 31)) (nI 23)) - (nI 11))) (vx_cwSW 7 hts gL_act_L_copy rfl rfl rfl (by decide +kernel) ⟨Nat.le_of_ble_eq_true rfl, Nat.le_of_ble_eq_true rfl⟩) (gpSZ hG hE hN9 hP hD hS hA [0, 1, 2, 3, 4, 5, 6, 7, 8, 9, 10, 11, 12, 13, 14, 15, 16, 17, 18, 19, 20, 21, 22, 23, 24, 25, 26] rfl (by decide)) rfl rfl hl.1 rfl (lv_room (Nat.le_of_ble_eq_true rfl)) dL_act_320 ⟨Nat.le_of_ble_eq_true rfl, Nat.le_of_ble_eq_true rfl⟩) hP hD hS hA [0, 1, 2, 3, 4, 5, 6, 7, 8, 9, 10, 11, 12, 13, 14, 15, 16, 17, 18, 19, 20, 21, 22, 23, 24, 25, 26] [] [0, 1, 2, 3, 4, 5, 6, 7, 8, 9, 10, 11, 12, 13, 14, 15, 16, 17, 18, 19, 20, 21, 22, 23, 24, 25, 26] rfl rfl (by decide) (by decide) (fun _ => rfl) (by decide) (fun r_320 u H locs hw_320 hP hD hS => ?_)
                    exact hret _ _ _ _ _ _ _ u dL_act_323 ⟨⟨_, _, _, _, _, _, _, _, Or.inr ⟨c_9, rfl, rfl, rfl, rfl, rfl, rfl, rfl, rfl⟩, Or.inr (Or.inr (Or.inr (Or.inl ⟨by first | exact Or.inl h_161 | exact Or.inr h_161, hw_320.1⟩)))⟩, hw_320.2⟩ hP hD hS (Nat.le_of_ble_eq_true rfl) (Nat.le_of_ble_eq_true rfl)
                  · skip
                    have c_297 : ¬ 0 = 0 := fun z => c_297 ((nI_eq (a := 0) (b := 0) (by omega) (by omega)).mpr z)
                    exact absurd c_297 (by decide)
                · skip
                  have c_283 : ¬ 0 = 0 := fun z => c_283 ((nI_eq (a := 0) (b := 0) (by omega) (by omega)).mpr z)
                  exact absurd c_283 (by decide)
              · skip
                refine lv_tableOut (tgt := 324) hx hb dL_act_161 (h_161) (by decide) ?_
                refine lv_aload_n hx hb dL_act_324 rfl (lv_at hl 6 rfl) ?_
                refine lv_iload hx hb dL_act_325 (lv_at hl 3 rfl) ?_
                refine lv_iload hx hb dL_act_327 (lv_at hl 2 rfl) ?_
                refine lv_iload hx hb dL_act_329 (lv_at hl 1 rfl) ?_
                refine lv_iload hx hb dL_act_331 (lv_at hl 0 rfl) ?_
                refine lv_iload_n hx hb dL_act_333 rfl (lv_at hl 5 rfl) ?_
                refine lv_if_eq (tgt := 351) hx hb dL_act_334 (by decide) (fun c_334 => ?_) (fun c_334 => ?_)
                · skip
                  have c_334 : 0 = 0 := (nI_eq (a := 0) (b := 0) (by omega) (by omega)).mp c_334
                  refine lv_iload_n hx hb dL_act_351 rfl (lv_at hl 7 rfl) ?_
                  refine lv_bipush (v := nI 20) hx hb dL_act_352 (by decide) ?_
                  refine lv_ishr hx hb dL_act_354 ?_
                  refine lv_iconst (v := nI 5) hx hb dL_act_355 (by decide) ?_
                  refine gc_Si (va_runS (As := [.int (v >>> ((nI 20) &&& 31)), .int (nI 5)]) (rest := [.int ((nI 1) + (lowI (v >>> ((nI 16) &&& 31)) ((nI 12) - (lowI (v >>> ((nI 8) &&& 31)) (nI 12))))), .int ((nI 1) + (lowI (v >>> ((nI 12) &&& 31)) ((nI 16) - (lowI (v >>> ((nI 4) &&& 31)) (nI 16))))), .int (lowI (v >>> ((nI 8) &&& 31)) (nI 12)), .int (lowI (v >>> ((nI 4) &&& 31)) (nI 16)), .ref (a 0)]) ⟨hx, hb, hml, hown, hts⟩ (c_L_low l D cy (v >>> ((nI 20) &&& 31)) (nI 5) (nI_ne0 (by decide) (by decide))) (va_cwS 2 hts gL_act_L_low rfl rfl rfl (by decide +kernel) ⟨Nat.le_of_ble_eq_true rfl, Nat.le_of_ble_eq_true rfl⟩) (gpSR hG (hP.sub [] rfl)) rfl rfl hl.1 rfl (lv_room (Nat.le_of_ble_eq_true rfl)) dL_act_356 ⟨Nat.zero_le _, Nat.zero_le _⟩) ?_
                  refine gc_Zi (wn := fun u : ob_T × ob_K => ob_w cy a q r u.1 u.2) (wr := []) (vx_runSW (As := [.ref (a 0), .int (lowI (v >>> ((nI 4) &&& 31)) (nI 16)), .int (lowI (v >>> ((nI 8) &&& 31)) (nI 12)), .int ((nI 1) + (lowI (v >>> ((nI 12) &&& 31)) ((nI 16) - (lowI (v >>> ((nI 4) &&& 31)) (nI 16))))), .int ((nI 1) + (lowI (v >>> ((nI 16) &&& 31)) ((nI 12) - (lowI (v >>> ((nI 8) &&& 31)) (nI 12))))), .int (lowI (v >>> ((nI 20) &&& 31)) (nI 5))]) (rest := []) ⟨hx, hb, hml, hown, hts⟩ (c_L_fill l hst D cy sa H.size a q r x y hk (lowI (v >>> ((nI 4) &&& 31)) (nI 16)) (lowI (v >>> ((nI 8) &&& 31)) (nI 12)) ((nI 1) + (lowI (v >>> ((nI 12) &&& 31)) ((nI 16) - (lowI (v >>> ((nI 4) &&& 31)) (nI 16))))) ((nI 1) + (lowI (v >>> ((nI 16) &&& 31)) ((nI 12) - (lowI (v >>> ((nI 8) &&& 31)) (nI 12))))) (lowI (v >>> ((nI 20) &&& 31)) (nI 5))) (vx_cwSW 6 hts gL_act_L_fill rfl rfl rfl (by decide +kernel) ⟨Nat.le_of_ble_eq_true rfl, Nat.le_of_ble_eq_true rfl⟩) (gpSZ hG hE hN9 hP hD hS hA [0, 1, 2, 3, 4, 5, 6, 7, 8, 9, 10, 11, 12, 13, 14, 15, 16, 17, 18, 19, 20, 21, 22, 23, 24, 25, 26] rfl (by decide)) rfl rfl hl.1 rfl (lv_room (Nat.le_of_ble_eq_true rfl)) dL_act_359 ⟨Nat.le_of_ble_eq_true rfl, Nat.le_of_ble_eq_true rfl⟩) hP hD hS hA [0, 1, 2, 3, 4, 5, 6, 7, 8, 9, 10, 11, 12, 13, 14, 15, 16, 17, 18, 19, 20, 21, 22, 23, 24, 25, 26] [] [0, 1, 2, 3, 4, 5, 6, 7, 8, 9, 10, 11, 12, 13, 14, 15, 16, 17, 18, 19, 20, 21, 22, 23, 24, 25, 26] rfl rfl (by decide) (by decide) (fun _ => rfl) (by decide) (fun r_359 u H locs hw_359 hP hD hS => ?_)
                  exact hret _ _ _ _ _ _ _ u dL_act_362 ⟨⟨_, _, _, _, _, _, _, _, Or.inr ⟨c_9, rfl, rfl, rfl, rfl, rfl, rfl, rfl, rfl⟩, Or.inr (Or.inr (Or.inr (Or.inr ⟨h_161, hw_359.1⟩)))⟩, hw_359.2⟩ hP hD hS (Nat.le_of_ble_eq_true rfl) (Nat.le_of_ble_eq_true rfl)
                · skip
                  have c_334 : ¬ 0 = 0 := fun z => c_334 ((nI_eq (a := 0) (b := 0) (by omega) (by omega)).mpr z)
                  exact absurd c_334 (by decide)
            · skip
              have c_124 : ¬ 0 = 0 := fun z => c_124 ((nI_eq (a := 0) (b := 0) (by omega) (by omega)).mpr z)
              exact absurd c_124 (by decide)
          · skip
            exact absurd (low_le15 _) c_105
        · skip
          have c_81 : ¬ 0 = 0 := fun z => c_81 ((nI_eq (a := 0) (b := 0) (by omega) (by omega)).mpr z)
          exact absurd c_81 (by decide)
      · skip
        have c_43 : ¬ 0 = 0 := fun z => c_43 ((nI_eq (a := 0) (b := 0) (by omega) (by omega)).mpr z)
        exact absurd c_43 (by decide)
    · skip
      have c_19 : ¬ 0 = 0 := fun z => c_19 ((nI_eq (a := 0) (b := 0) (by omega) (by omega)).mpr z)
      exact absurd c_19 (by decide)
  · skip
    refine lv_iconst (v := nI 1) hx hb dL_act_12 (by decide) ?_
    refine lv_goto (tgt := 17) hx hb dL_act_13 (by decide) ?_
    refine lv_istore_n (lv' := [(2, .int (nI 1)), (0, .ref (a 0)), (1, .int v)]) hx hb dL_act_17 rfl hl (by decide) rfl (fun ls hl => ?_)
    refine lv_iload_n hx hb dL_act_18 rfl (lv_at hl 0 rfl) ?_
    refine lv_if_eq (tgt := 34) hx hb dL_act_19 (by decide) (fun c_19 => ?_) (fun c_19 => ?_)
    · skip
      have c_19 : 1 = 0 := (nI_eq (a := 1) (b := 0) (by omega) (by omega)).mp c_19
      exact absurd c_19 (by decide)
    · skip
      have c_19 : ¬ 1 = 0 := fun z => c_19 ((nI_eq (a := 1) (b := 0) (by omega) (by omega)).mpr z)
      refine lv_iload_n hx hb dL_act_22 rfl (lv_at hl 2 rfl) ?_
      refine lv_iconst (v := nI 4) hx hb dL_act_23 (by decide) ?_
      refine lv_ishr hx hb dL_act_24 ?_
      refine lv_iconst (v := nI 4) hx hb dL_act_25 (by decide) ?_
      refine gc_Si (va_runS (As := [.int (v >>> ((nI 4) &&& 31)), .int (nI 4)]) (rest := []) ⟨hx, hb, hml, hown, hts⟩ (c_L_low l D cy (v >>> ((nI 4) &&& 31)) (nI 4) (nI_ne0 (by decide) (by decide))) (va_cwS 2 hts gL_act_L_low rfl rfl rfl (by decide +kernel) ⟨Nat.le_of_ble_eq_true rfl, Nat.le_of_ble_eq_true rfl⟩) (gpSR hG (hP.sub [] rfl)) rfl rfl hl.1 rfl (lv_room (Nat.le_of_ble_eq_true rfl)) dL_act_26 ⟨Nat.zero_le _, Nat.zero_le _⟩) ?_
      refine lv_iconst (v := nI 1) hx hb dL_act_29 (by decide) ?_
      refine lv_isub hx hb dL_act_30 ?_
      refine lv_goto (tgt := 41) hx hb dL_act_31 (by decide) ?_
      refine lv_istore_n (lv' := [(3, .int ((lowI (v >>> ((nI 4) &&& 31)) (nI 4)) - (nI 1))), (2, .int (nI 1)), (0, .ref (a 0)), (1, .int v)]) hx hb dL_act_41 rfl hl (by decide) rfl (fun ls hl => ?_)
      refine lv_iload_n hx hb dL_act_42 rfl (lv_at hl 1 rfl) ?_
      refine lv_if_eq (tgt := 59) hx hb dL_act_43 (by decide) (fun c_43 => ?_) (fun c_43 => ?_)
      · skip
        have c_43 : 1 = 0 := (nI_eq (a := 1) (b := 0) (by omega) (by omega)).mp c_43
        exact absurd c_43 (by decide)
      · skip
        have c_43 : ¬ 1 = 0 := fun z => c_43 ((nI_eq (a := 1) (b := 0) (by omega) (by omega)).mpr z)
        refine lv_iload_n hx hb dL_act_46 rfl (lv_at hl 3 rfl) ?_
        refine lv_iconst (v := nI 4) hx hb dL_act_47 (by decide) ?_
        refine lv_ishr hx hb dL_act_48 ?_
        refine lv_bipush (v := nI 18) hx hb dL_act_49 (by decide) ?_
        refine gc_Si (va_runS (As := [.int (v >>> ((nI 4) &&& 31)), .int (nI 18)]) (rest := []) ⟨hx, hb, hml, hown, hts⟩ (c_L_low l D cy (v >>> ((nI 4) &&& 31)) (nI 18) (nI_ne0 (by decide) (by decide))) (va_cwS 2 hts gL_act_L_low rfl rfl rfl (by decide +kernel) ⟨Nat.le_of_ble_eq_true rfl, Nat.le_of_ble_eq_true rfl⟩) (gpSR hG (hP.sub [] rfl)) rfl rfl hl.1 rfl (lv_room (Nat.le_of_ble_eq_true rfl)) dL_act_51 ⟨Nat.zero_le _, Nat.zero_le _⟩) ?_
        refine lv_iconst (v := nI 1) hx hb dL_act_54 (by decide) ?_
        refine lv_isub hx hb dL_act_55 ?_
        refine lv_goto (tgt := 67) hx hb dL_act_56 (by decide) ?_
        refine lv_istore (lv' := [(4, .int ((lowI (v >>> ((nI 4) &&& 31)) (nI 18)) - (nI 1))), (3, .int ((lowI (v >>> ((nI 4) &&& 31)) (nI 4)) - (nI 1))), (2, .int (nI 1)), (0, .ref (a 0)), (1, .int v)]) hx hb dL_act_67 hl (by decide) rfl (fun ls hl => ?_)
        refine lv_iload_n hx hb dL_act_69 rfl (lv_at hl 4 rfl) ?_
        refine lv_bipush (v := nI 8) hx hb dL_act_70 (by decide) ?_
        refine lv_ishr hx hb dL_act_72 ?_
        refine lv_bipush (v := nI 12) hx hb dL_act_73 (by decide) ?_
        refine gc_Si (va_runS (As := [.int (v >>> ((nI 8) &&& 31)), .int (nI 12)]) (rest := []) ⟨hx, hb, hml, hown, hts⟩ (c_L_low l D cy (v >>> ((nI 8) &&& 31)) (nI 12) (nI_ne0 (by decide) (by decide))) (va_cwS 2 hts gL_act_L_low rfl rfl rfl (by decide +kernel) ⟨Nat.le_of_ble_eq_true rfl, Nat.le_of_ble_eq_true rfl⟩) (gpSR hG (hP.sub [] rfl)) rfl rfl hl.1 rfl (lv_room (Nat.le_of_ble_eq_true rfl)) dL_act_75 ⟨Nat.zero_le _, Nat.zero_le _⟩) ?_
        refine lv_istore (lv' := [(5, .int (lowI (v >>> ((nI 8) &&& 31)) (nI 12))), (4, .int ((lowI (v >>> ((nI 4) &&& 31)) (nI 18)) - (nI 1))), (3, .int ((lowI (v >>> ((nI 4) &&& 31)) (nI 4)) - (nI 1))), (2, .int (nI 1)), (0, .ref (a 0)), (1, .int v)]) hx hb dL_act_78 hl (by decide) rfl (fun ls hl => ?_)
        refine lv_iload_n hx hb dL_act_80 rfl (lv_at hl 3 rfl) ?_
        refine lv_if_eq (tgt := 96) hx hb dL_act_81 (by decide) (fun c_81 => ?_) (fun c_81 => ?_)
        · skip
          have c_81 : 1 = 0 := (nI_eq (a := 1) (b := 0) (by omega) (by omega)).mp c_81
          exact absurd c_81 (by decide)
        · skip
          have c_81 : ¬ 1 = 0 := fun z => c_81 ((nI_eq (a := 1) (b := 0) (by omega) (by omega)).mpr z)
          refine lv_iload_n hx hb dL_act_84 rfl (lv_at hl 5 rfl) ?_
          refine lv_bipush (v := nI 12) hx hb dL_act_85 (by decide) ?_
          refine lv_ishr hx hb dL_act_87 ?_
          refine lv_bipush (v := nI 18) hx hb dL_act_88 (by decide) ?_
          refine gc_Si (va_runS (As := [.int (v >>> ((nI 12) &&& 31)), .int (nI 18)]) (rest := []) ⟨hx, hb, hml, hown, hts⟩ (c_L_low l D cy (v >>> ((nI 12) &&& 31)) (nI 18) (nI_ne0 (by decide) (by decide))) (va_cwS 2 hts gL_act_L_low rfl rfl rfl (by decide +kernel) ⟨Nat.le_of_ble_eq_true rfl, Nat.le_of_ble_eq_true rfl⟩) (gpSR hG (hP.sub [] rfl)) rfl rfl hl.1 rfl (lv_room (Nat.le_of_ble_eq_true rfl)) dL_act_90 ⟨Nat.zero_le _, Nat.zero_le _⟩) ?_
          refine lv_goto (tgt := 121) hx hb dL_act_93 (by decide) ?_
          refine lv_istore (lv' := [(6, .int (lowI (v >>> ((nI 12) &&& 31)) (nI 18))), (5, .int (lowI (v >>> ((nI 8) &&& 31)) (nI 12))), (4, .int ((lowI (v >>> ((nI 4) &&& 31)) (nI 18)) - (nI 1))), (3, .int ((lowI (v >>> ((nI 4) &&& 31)) (nI 4)) - (nI 1))), (2, .int (nI 1)), (0, .ref (a 0)), (1, .int v)]) hx hb dL_act_121 hl (by decide) rfl (fun ls hl => ?_)
          refine lv_iload_n hx hb dL_act_123 rfl (lv_at hl 4 rfl) ?_
          refine lv_if_eq (tgt := 139) hx hb dL_act_124 (by decide) (fun c_124 => ?_) (fun c_124 => ?_)
          · skip
            have c_124 : 1 = 0 := (nI_eq (a := 1) (b := 0) (by omega) (by omega)).mp c_124
            exact absurd c_124 (by decide)
          · skip
            have c_124 : ¬ 1 = 0 := fun z => c_124 ((nI_eq (a := 1) (b := 0) (by omega) (by omega)).mpr z)
            refine lv_iload_n hx hb dL_act_127 rfl (lv_at hl 6 rfl) ?_
            refine lv_bipush (v := nI 16) hx hb dL_act_128 (by decide) ?_
            refine lv_ishr hx hb dL_act_130 ?_
            refine lv_bipush (v := nI 14) hx hb dL_act_131 (by decide) ?_
            refine gc_Si (va_runS (As := [.int (v >>> ((nI 16) &&& 31)), .int (nI 14)]) (rest := []) ⟨hx, hb, hml, hown, hts⟩ (c_L_low l D cy (v >>> ((nI 16) &&& 31)) (nI 14) (nI_ne0 (by decide) (by decide))) (va_cwS 2 hts gL_act_L_low rfl rfl rfl (by decide +kernel) ⟨Nat.le_of_ble_eq_true rfl, Nat.le_of_ble_eq_true rfl⟩) (gpSR hG (hP.sub [] rfl)) rfl rfl hl.1 rfl (lv_room (Nat.le_of_ble_eq_true rfl)) dL_act_133 ⟨Nat.zero_le _, Nat.zero_le _⟩) ?_
            refine lv_goto (tgt := 153) hx hb dL_act_136 (by decide) ?_
            refine lv_istore (lv' := [(7, .int (lowI (v >>> ((nI 16) &&& 31)) (nI 14))), (6, .int (lowI (v >>> ((nI 12) &&& 31)) (nI 18))), (5, .int (lowI (v >>> ((nI 8) &&& 31)) (nI 12))), (4, .int ((lowI (v >>> ((nI 4) &&& 31)) (nI 18)) - (nI 1))), (3, .int ((lowI (v >>> ((nI 4) &&& 31)) (nI 4)) - (nI 1))), (2, .int (nI 1)), (0, .ref (a 0)), (1, .int v)]) hx hb dL_act_153 hl (by decide) rfl (fun ls hl => ?_)
            refine lv_iload_n hx hb dL_act_155 rfl (lv_at hl 7 rfl) ?_
            refine lv_bipush (v := nI 10) hx hb dL_act_156 (by decide) ?_
            refine gc_Si (va_runS (As := [.int v, .int (nI 10)]) (rest := []) ⟨hx, hb, hml, hown, hts⟩ (c_L_low l D cy v (nI 10) (nI_ne0 (by decide) (by decide))) (va_cwS 2 hts gL_act_L_low rfl rfl rfl (by decide +kernel) ⟨Nat.le_of_ble_eq_true rfl, Nat.le_of_ble_eq_true rfl⟩) (gpSR hG (hP.sub [] rfl)) rfl rfl hl.1 rfl (lv_room (Nat.le_of_ble_eq_true rfl)) dL_act_158 ⟨Nat.zero_le _, Nat.zero_le _⟩) ?_
            rcases (show (lowI v (nI 10)).toInt = 0 ∨ (lowI v (nI 10)).toInt = 1 ∨ (lowI v (nI 10)).toInt = 2 ∨ (lowI v (nI 10)).toInt = 3 ∨ (lowI v (nI 10)).toInt = 4 ∨ (lowI v (nI 10)).toInt = 5 ∨ (lowI v (nI 10)).toInt = 6 ∨ ((lowI v (nI 10)).toInt < 0 ∨ 6 < (lowI v (nI 10)).toInt) from by omega) with h_161 | h_161 | h_161 | h_161 | h_161 | h_161 | h_161 | h_161
            · skip
              refine lv_tableIn (tgt := 204) (off := 43) hx hb dL_act_161 (by rw [h_161]; decide) (by rw [h_161]; decide) (by rw [h_161]; rfl) (by decide) ?_
              refine lv_iload_n hx hb dL_act_204 rfl (lv_at hl 7 rfl) ?_
              refine lv_bipush (v := nI 8) hx hb dL_act_205 (by decide) ?_
              refine lv_ishr hx hb dL_act_207 ?_
              refine lv_iconst (v := nI 4) hx hb dL_act_208 (by decide) ?_
              refine gc_Si (va_runS (As := [.int (v >>> ((nI 8) &&& 31)), .int (nI 4)]) (rest := []) ⟨hx, hb, hml, hown, hts⟩ (c_L_low l D cy (v >>> ((nI 8) &&& 31)) (nI 4) (nI_ne0 (by decide) (by decide))) (va_cwS 2 hts gL_act_L_low rfl rfl rfl (by decide +kernel) ⟨Nat.le_of_ble_eq_true rfl, Nat.le_of_ble_eq_true rfl⟩) (gpSR hG (hP.sub [] rfl)) rfl rfl hl.1 rfl (lv_room (Nat.le_of_ble_eq_true rfl)) dL_act_209 ⟨Nat.zero_le _, Nat.zero_le _⟩) ?_
              refine lv_if_ne (tgt := 223) hx hb dL_act_212 (by decide) (fun c_212 => ?_) (fun c_212 => ?_)
              · skip
                refine lv_aload_n hx hb dL_act_223 rfl (lv_at hl 6 rfl) ?_
                refine lv_iload_n hx hb dL_act_224 rfl (lv_at hl 4 rfl) ?_
                refine gc_Zi (wn := fun u : ob_T × ob_K => ob_w cy a q r u.1 u.2) (wr := []) (vx_runSW (As := [.ref (a 0), .int ((lowI (v >>> ((nI 4) &&& 31)) (nI 4)) - (nI 1))]) (rest := []) ⟨hx, hb, hml, hown, hts⟩ (c_L_answer l hst D cy sa H.size a q r x y hk ((lowI (v >>> ((nI 4) &&& 31)) (nI 4)) - (nI 1))) (vx_cwSW 2 hts gL_act_L_answer rfl rfl rfl (by decide +kernel) ⟨Nat.le_of_ble_eq_true rfl, Nat.le_of_ble_eq_true rfl⟩) (gpSZ hG hE hN9 hP hD hS hA [0, 1, 2, 3, 4, 5, 6, 7, 8, 9, 10, 11, 12, 13, 14, 15, 16, 17, 18, 19, 20, 21, 22, 23, 24, 25, 26] rfl (by decide)) rfl rfl hl.1 rfl (lv_room (Nat.le_of_ble_eq_true rfl)) dL_act_225 ⟨Nat.le_of_ble_eq_true rfl, Nat.le_of_ble_eq_true rfl⟩) hP hD hS hA [0, 1, 2, 3, 4, 5, 6, 7, 8, 9, 10, 11, 12, 13, 14, 15, 16, 17, 18, 19, 20, 21, 22, 23, 24, 25, 26] [] [0, 1, 2, 3, 4, 5, 6, 7, 8, 9, 10, 11, 12, 13, 14, 15, 16, 17, 18, 19, 20, 21, 22, 23, 24, 25, 26] rfl rfl (by decide) (by decide) (fun _ => rfl) (by decide) (fun r_225 u H locs hw_225 hP hD hS => ?_)
                exact hret _ _ _ _ _ _ _ u dL_act_228 ⟨⟨_, _, _, _, _, _, _, _, Or.inl ⟨c_9, rfl, rfl, rfl, rfl, rfl, rfl, rfl, rfl⟩, Or.inr (Or.inl ⟨Or.inl ⟨h_161, c_212⟩, hw_225.1⟩)⟩, hw_225.2⟩ hP hD hS (Nat.le_of_ble_eq_true rfl) (Nat.le_of_ble_eq_true rfl)
              · skip
                refine lv_aload_n hx hb dL_act_215 rfl (lv_at hl 6 rfl) ?_
                refine lv_iload_n hx hb dL_act_216 rfl (lv_at hl 4 rfl) ?_
                refine gc_Zi (wn := fun u : ob_T × ob_K => ob_w cy a q r u.1 u.2) (wr := []) (vx_runSW (As := [.ref (a 0), .int ((lowI (v >>> ((nI 4) &&& 31)) (nI 4)) - (nI 1))]) (rest := []) ⟨hx, hb, hml, hown, hts⟩ (c_L_join l hst D cy sa H.size a q r x y hk ((lowI (v >>> ((nI 4) &&& 31)) (nI 4)) - (nI 1))) (vx_cwSW 2 hts gL_act_L_join rfl rfl rfl (by decide +kernel) ⟨Nat.le_of_ble_eq_true rfl, Nat.le_of_ble_eq_true rfl⟩) (gpSZ hG hE hN9 hP hD hS hA [0, 1, 2, 3, 4, 5, 6, 7, 8, 9, 10, 11, 12, 13, 14, 15, 16, 17, 18, 19, 20, 21, 22, 23, 24, 25, 26] rfl (by decide)) rfl rfl hl.1 rfl (lv_room (Nat.le_of_ble_eq_true rfl)) dL_act_217 ⟨Nat.le_of_ble_eq_true rfl, Nat.le_of_ble_eq_true rfl⟩) hP hD hS hA [0, 1, 2, 3, 4, 5, 6, 7, 8, 9, 10, 11, 12, 13, 14, 15, 16, 17, 18, 19, 20, 21, 22, 23, 24, 25, 26] [] [0, 1, 2, 3, 4, 5, 6, 7, 8, 9, 10, 11, 12, 13, 14, 15, 16, 17, 18, 19, 20, 21, 22, 23, 24, 25, 26] rfl rfl (by decide) (by decide) (fun _ => rfl) (by decide) (fun r_217 u H locs hw_217 hP hD hS => ?_)
                refine lv_goto (tgt := 228) hx hb dL_act_220 (by decide) ?_
                exact hret _ _ _ _ _ _ _ u dL_act_228 ⟨⟨_, _, _, _, _, _, _, _, Or.inl ⟨c_9, rfl, rfl, rfl, rfl, rfl, rfl, rfl, rfl⟩, Or.inl ⟨h_161, c_212, hw_217.1⟩⟩, hw_217.2⟩ hP hD hS (Nat.le_of_ble_eq_true rfl) (Nat.le_of_ble_eq_true rfl)
            · skip
              refine lv_tableIn (tgt := 229) (off := 68) hx hb dL_act_161 (by rw [h_161]; decide) (by rw [h_161]; decide) (by rw [h_161]; rfl) (by decide) ?_
              refine lv_aload_n hx hb dL_act_229 rfl (lv_at hl 6 rfl) ?_
              refine lv_iload_n hx hb dL_act_230 rfl (lv_at hl 4 rfl) ?_
              refine gc_Zi (wn := fun u : ob_T × ob_K => ob_w cy a q r u.1 u.2) (wr := []) (vx_runSW (As := [.ref (a 0), .int ((lowI (v >>> ((nI 4) &&& 31)) (nI 4)) - (nI 1))]) (rest := []) ⟨hx, hb, hml, hown, hts⟩ (c_L_answer l hst D cy sa H.size a q r x y hk ((lowI (v >>> ((nI 4) &&& 31)) (nI 4)) - (nI 1))) (vx_cwSW 2 hts gL_act_L_answer rfl rfl rfl (by decide +kernel) ⟨Nat.le_of_ble_eq_true rfl, Nat.le_of_ble_eq_true rfl⟩) (gpSZ hG hE hN9 hP hD hS hA [0, 1, 2, 3, 4, 5, 6, 7, 8, 9, 10, 11, 12, 13, 14, 15, 16, 17, 18, 19, 20, 21, 22, 23, 24, 25, 26] rfl (by decide)) rfl rfl hl.1 rfl (lv_room (Nat.le_of_ble_eq_true rfl)) dL_act_231 ⟨Nat.le_of_ble_eq_true rfl, Nat.le_of_ble_eq_true rfl⟩) hP hD hS hA [0, 1, 2, 3, 4, 5, 6, 7, 8, 9, 10, 11, 12, 13, 14, 15, 16, 17, 18, 19, 20, 21, 22, 23, 24, 25, 26] [] [0, 1, 2, 3, 4, 5, 6, 7, 8, 9, 10, 11, 12, 13, 14, 15, 16, 17, 18, 19, 20, 21, 22, 23, 24, 25, 26] rfl rfl (by decide) (by decide) (fun _ => rfl) (by decide) (fun r_231 u H locs hw_231 hP hD hS => ?_)
              exact hret _ _ _ _ _ _ _ u dL_act_234 ⟨⟨_, _, _, _, _, _, _, _, Or.inl ⟨c_9, rfl, rfl, rfl, rfl, rfl, rfl, rfl, rfl⟩, Or.inr (Or.inl ⟨by first | exact Or.inr (Or.inl h_161) | exact Or.inr (Or.inr h_161), hw_231.1⟩)⟩, hw_231.2⟩ hP hD hS (Nat.le_of_ble_eq_true rfl) (Nat.le_of_ble_eq_true rfl)
            · skip
              refine lv_tableIn (tgt := 229) (off := 68) hx hb dL_act_161 (by rw [h_161]; decide) (by rw [h_161]; decide) (by rw [h_161]; rfl) (by decide) ?_
              refine lv_aload_n hx hb dL_act_229 rfl (lv_at hl 6 rfl) ?_
              refine lv_iload_n hx hb dL_act_230 rfl (lv_at hl 4 rfl) ?_
              refine gc_Zi (wn := fun u : ob_T × ob_K => ob_w cy a q r u.1 u.2) (wr := []) (vx_runSW (As := [.ref (a 0), .int ((lowI (v >>> ((nI 4) &&& 31)) (nI 4)) - (nI 1))]) (rest := []) ⟨hx, hb, hml, hown, hts⟩ (c_L_answer l hst D cy sa H.size a q r x y hk ((lowI (v >>> ((nI 4) &&& 31)) (nI 4)) - (nI 1))) (vx_cwSW 2 hts gL_act_L_answer rfl rfl rfl (by decide +kernel) ⟨Nat.le_of_ble_eq_true rfl, Nat.le_of_ble_eq_true rfl⟩) (gpSZ hG hE hN9 hP hD hS hA [0, 1, 2, 3, 4, 5, 6, 7, 8, 9, 10, 11, 12, 13, 14, 15, 16, 17, 18, 19, 20, 21, 22, 23, 24, 25, 26] rfl (by decide)) rfl rfl hl.1 rfl (lv_room (Nat.le_of_ble_eq_true rfl)) dL_act_231 ⟨Nat.le_of_ble_eq_true rfl, Nat.le_of_ble_eq_true rfl⟩) hP hD hS hA [0, 1, 2, 3, 4, 5, 6, 7, 8, 9, 10, 11, 12, 13, 14, 15, 16, 17, 18, 19, 20, 21, 22, 23, 24, 25, 26] [] [0, 1, 2, 3, 4, 5, 6, 7, 8, 9, 10, 11, 12, 13, 14, 15, 16, 17, 18, 19, 20, 21, 22, 23, 24, 25, 26] rfl rfl (by decide) (by decide) (fun _ => rfl) (by decide) (fun r_231 u H locs hw_231 hP hD hS => ?_)
              exact hret _ _ _ _ _ _ _ u dL_act_234 ⟨⟨_, _, _, _, _, _, _, _, Or.inl ⟨c_9, rfl, rfl, rfl, rfl, rfl, rfl, rfl, rfl⟩, Or.inr (Or.inl ⟨by first | exact Or.inr (Or.inl h_161) | exact Or.inr (Or.inr h_161), hw_231.1⟩)⟩, hw_231.2⟩ hP hD hS (Nat.le_of_ble_eq_true rfl) (Nat.le_of_ble_eq_true rfl)
            · skip
              refine lv_tableIn (tgt := 235) (off := 74) hx hb dL_act_161 (by rw [h_161]; decide) (by rw [h_161]; decide) (by rw [h_161]; rfl) (by decide) ?_
              refine lv_aload_n hx hb dL_act_235 rfl (lv_at hl 6 rfl) ?_
              refine lv_iload_n hx hb dL_act_236 rfl (lv_at hl 4 rfl) ?_
              refine lv_iload_n hx hb dL_act_237 rfl (lv_at hl 5 rfl) ?_
              refine lv_if_eq (tgt := 256) hx hb dL_act_238 (by decide) (fun c_238 => ?_) (fun c_238 => ?_)
              · skip
                have c_238 : 1 = 0 := (nI_eq (a := 1) (b := 0) (by omega) (by omega)).mp c_238
                exact absurd c_238 (by decide)
              · skip
                have c_238 : ¬ 1 = 0 := fun z => c_238 ((nI_eq (a := 1) (b := 0) (by omega) (by omega)).mpr z)
                refine lv_iload_n hx hb dL_act_241 rfl (lv_at hl 7 rfl) ?_
                refine lv_bipush (v := nI 6) hx hb dL_act_242 (by decide) ?_
                refine lv_ishr hx hb dL_act_244 ?_
                refine lv_sipush (v := nI 304) hx hb dL_act_245 (by decide) ?_
                refine gc_Si (va_runS (As := [.int (v >>> ((nI 6) &&& 31)), .int (nI 304)]) (rest := [.int ((lowI (v >>> ((nI 4) &&& 31)) (nI 4)) - (nI 1)), .ref (a 0)]) ⟨hx, hb, hml, hown, hts⟩ (c_L_low l D cy (v >>> ((nI 6) &&& 31)) (nI 304) (nI_ne0 (by decide) (by decide))) (va_cwS 2 hts gL_act_L_low rfl rfl rfl (by decide +kernel) ⟨Nat.le_of_ble_eq_true rfl, Nat.le_of_ble_eq_true rfl⟩) (gpSR hG (hP.sub [] rfl)) rfl rfl hl.1 rfl (lv_room (Nat.le_of_ble_eq_true rfl)) dL_act_248 ⟨Nat.zero_le _, Nat.zero_le _⟩) ?_
                refine lv_iconst (v := nI 2) hx hb dL_act_251 (by decide) ?_
                refine lv_isub hx hb dL_act_252 ?_
                refine lv_goto (tgt := 265) hx hb dL_act_253 (by decide) ?_
                refine gc_Zi (wn := fun u : ob_T × ob_K => ob_w cy a q r u.1 u.2) (wr := []) (vx_runSW (As := [.ref (a 0), .int ((lowI (v >>> ((nI 4) &&& 31)) (nI 4)) - (nI 1)), .int ((lowI (v >>> ((nI 6) &&& 31)) (nI 304)) - (nI 2))]) (rest := []) ⟨hx, hb, hml, hown, hts⟩ (c_L_ask l hst D cy sa H.size a q r x y hk ((lowI (v >>> ((nI 4) &&& 31)) (nI 4)) - (nI 1)) ((lowI (v >>> ((nI 6) &&& 31)) (nI 304)) - (nI 2))) (vx_cwSW 3 hts gL_act_L_ask rfl rfl rfl (by decide +kernel) ⟨Nat.le_of_ble_eq_true rfl, Nat.le_of_ble_eq_true rfl⟩) (gpSZ hG hE hN9 hP hD hS hA [0, 1, 2, 3, 4, 5, 6, 7, 8, 9, 10, 11, 12, 13, 14, 15, 16, 17, 18, 19, 20, 21, 22, 23, 24, 25, 26] rfl (by decide)) rfl rfl hl.1 rfl (lv_room (Nat.le_of_ble_eq_true rfl)) dL_act_265 ⟨Nat.le_of_ble_eq_true rfl, Nat.le_of_ble_eq_true rfl⟩) hP hD hS hA [0, 1, 2, 3, 4, 5, 6, 7, 8, 9, 10, 11, 12, 13, 14, 15, 16, 17, 18, 19, 20, 21, 22, 23, 24, 25, 26] [] [0, 1, 2, 3, 4, 5, 6, 7, 8, 9, 10, 11, 12, 13, 14, 15, 16, 17, 18, 19, 20, 21, 22, 23, 24, 25, 26] rfl rfl (by decide) (by decide) (fun _ => rfl) (by decide) (fun r_265 u H locs hw_265 hP hD hS => ?_)
                exact hret _ _ _ _ _ _ _ u dL_act_268 ⟨⟨_, _, _, _, _, _, _, _, Or.inl ⟨c_9, rfl, rfl, rfl, rfl, rfl, rfl, rfl, rfl⟩, Or.inr (Or.inr (Or.inl ⟨by first | exact Or.inl h_161 | exact Or.inr h_161, hw_265.1⟩))⟩, hw_265.2⟩ hP hD hS (Nat.le_of_ble_eq_true rfl) (Nat.le_of_ble_eq_true rfl)
            · skip
              refine lv_tableIn (tgt := 235) (off := 74) hx hb dL_act_161 (by rw [h_161]; decide) (by rw [h_161]; decide) (by rw [h_161]; rfl) (by decide) ?_
              refine lv_aload_n hx hb dL_act_235 rfl (lv_at hl 6 rfl) ?_
              refine lv_iload_n hx hb dL_act_236 rfl (lv_at hl 4 rfl) ?_
              refine lv_iload_n hx hb dL_act_237 rfl (lv_at hl 5 rfl) ?_
              refine lv_if_eq (tgt := 256) hx hb dL_act_238 (by decide) (fun c_238 => ?_) (fun c_238 => ?_)
              · skip
                have c_238 : 1 = 0 := (nI_eq (a := 1) (b := 0) (by omega) (by omega)).mp c_238
                exact absurd c_238 (by decide)
              · skip
                have c_238 : ¬ 1 = 0 := fun z => c_238 ((nI_eq (a := 1) (b := 0) (by omega) (by omega)).mpr z)
                refine lv_iload_n hx hb dL_act_241 rfl (lv_at hl 7 rfl) ?_
                refine lv_bipush (v := nI 6) hx hb dL_act_242 (by decide) ?_
                refine lv_ishr hx hb dL_act_244 ?_
                refine lv_sipush (v := nI 304) hx hb dL_act_245 (by decide) ?_
                refine gc_Si (va_runS (As := [.int (v >>> ((nI 6) &&& 31)), .int (nI 304)]) (rest := [.int ((lowI (v >>> ((nI 4) &&& 31)) (nI 4)) - (nI 1)), .ref (a 0)]) ⟨hx, hb, hml, hown, hts⟩ (c_L_low l D cy (v >>> ((nI 6) &&& 31)) (nI 304) (nI_ne0 (by decide) (by decide))) (va_cwS 2 hts gL_act_L_low rfl rfl rfl (by decide +kernel) ⟨Nat.le_of_ble_eq_true rfl, Nat.le_of_ble_eq_true rfl⟩) (gpSR hG (hP.sub [] rfl)) rfl rfl hl.1 rfl (lv_room (Nat.le_of_ble_eq_true rfl)) dL_act_248 ⟨Nat.zero_le _, Nat.zero_le _⟩) ?_
                refine lv_iconst (v := nI 2) hx hb dL_act_251 (by decide) ?_
                refine lv_isub hx hb dL_act_252 ?_
                refine lv_goto (tgt := 265) hx hb dL_act_253 (by decide) ?_
                refine gc_Zi (wn := fun u : ob_T × ob_K => ob_w cy a q r u.1 u.2) (wr := []) (vx_runSW (As := [.ref (a 0), .int ((lowI (v >>> ((nI 4) &&& 31)) (nI 4)) - (nI 1)), .int ((lowI (v >>> ((nI 6) &&& 31)) (nI 304)) - (nI 2))]) (rest := []) ⟨hx, hb, hml, hown, hts⟩ (c_L_ask l hst D cy sa H.size a q r x y hk ((lowI (v >>> ((nI 4) &&& 31)) (nI 4)) - (nI 1)) ((lowI (v >>> ((nI 6) &&& 31)) (nI 304)) - (nI 2))) (vx_cwSW 3 hts gL_act_L_ask rfl rfl rfl (by decide +kernel) ⟨Nat.le_of_ble_eq_true rfl, Nat.le_of_ble_eq_true rfl⟩) (gpSZ hG hE hN9 hP hD hS hA [0, 1, 2, 3, 4, 5, 6, 7, 8, 9, 10, 11, 12, 13, 14, 15, 16, 17, 18, 19, 20, 21, 22, 23, 24, 25, 26] rfl (by decide)) rfl rfl hl.1 rfl (lv_room (Nat.le_of_ble_eq_true rfl)) dL_act_265 ⟨Nat.le_of_ble_eq_true rfl, Nat.le_of_ble_eq_true rfl⟩) hP hD hS hA [0, 1, 2, 3, 4, 5, 6, 7, 8, 9, 10, 11, 12, 13, 14, 15, 16, 17, 18, 19, 20, 21, 22, 23, 24, 25, 26] [] [0, 1, 2, 3, 4, 5, 6, 7, 8, 9, 10, 11, 12, 13, 14, 15, 16, 17, 18, 19, 20, 21, 22, 23, 24, 25, 26] rfl rfl (by decide) (by decide) (fun _ => rfl) (by decide) (fun r_265 u H locs hw_265 hP hD hS => ?_)
                exact hret _ _ _ _ _ _ _ u dL_act_268 ⟨⟨_, _, _, _, _, _, _, _, Or.inl ⟨c_9, rfl, rfl, rfl, rfl, rfl, rfl, rfl, rfl⟩, Or.inr (Or.inr (Or.inl ⟨by first | exact Or.inl h_161 | exact Or.inr h_161, hw_265.1⟩))⟩, hw_265.2⟩ hP hD hS (Nat.le_of_ble_eq_true rfl) (Nat.le_of_ble_eq_true rfl)
            · skip
              refine lv_tableIn (tgt := 269) (off := 108) hx hb dL_act_161 (by rw [h_161]; decide) (by rw [h_161]; decide) (by rw [h_161]; rfl) (by decide) ?_
              refine lv_aload_n hx hb dL_act_269 rfl (lv_at hl 6 rfl) ?_
              refine lv_iload hx hb dL_act_270 (lv_at hl 3 rfl) ?_
              refine lv_iload hx hb dL_act_272 (lv_at hl 2 rfl) ?_
              refine lv_iload hx hb dL_act_274 (lv_at hl 1 rfl) ?_
              refine lv_iload hx hb dL_act_276 (lv_at hl 0 rfl) ?_
              refine lv_iload_n hx hb dL_act_278 rfl (lv_at hl 7 rfl) ?_
              refine lv_bipush (v := nI 20) hx hb dL_act_279 (by decide) ?_
              refine lv_ishr hx hb dL_act_281 ?_
              refine lv_iload_n hx hb dL_act_282 rfl (lv_at hl 5 rfl) ?_
              refine lv_if_eq (tgt := 291) hx hb dL_act_283 (by decide) (fun c_283 => ?_) (fun c_283 => ?_)
              · skip
                have c_283 : 1 = 0 := (nI_eq (a := 1) (b := 0) (by omega) (by omega)).mp c_283
                exact absurd c_283 (by decide)
              · skip
                have c_283 : ¬ 1 = 0 := fun z => c_283 ((nI_eq (a := 1) (b := 0) (by omega) (by omega)).mpr z)
                refine lv_bipush (v := nI 35) hx hb dL_act_286 (by decide) ?_
                refine lv_goto (tgt := 293) hx hb dL_act_288 (by decide) ?_
                refine gc_Si (va_runS (As := [.int (v >>> ((nI 20) &&& 31)), .int (nI 35)]) (rest := [.int (lowI (v >>> ((nI 16) &&& 31)) (nI 14)), .int (lowI (v >>> ((nI 12) &&& 31)) (nI 18)), .int (lowI (v >>> ((nI 8) &&& 31)) (nI 12)), .int ((lowI (v >>> ((nI 4) &&& 31)) (nI 18)) - (nI 1)), .ref (a 0)]) ⟨hx, hb, hml, hown, hts⟩ (c_L_low l D cy (v >>> ((nI 20) &&& 31)) (nI 35) (nI_ne0 (by decide) (by decide))) (va_cwS 2 hts gL_act_L_low rfl rfl rfl (by decide +kernel) ⟨Nat.le_of_ble_eq_true rfl, Nat.le_of_ble_eq_true rfl⟩) (gpSR hG (hP.sub [] rfl)) rfl rfl hl.1 rfl (lv_room (Nat.le_of_ble_eq_true rfl)) dL_act_293 ⟨Nat.zero_le _, Nat.zero_le _⟩) ?_
                refine lv_iload_n hx hb dL_act_296 rfl (lv_at hl 5 rfl) ?_
                refine lv_if_eq (tgt := 305) hx hb dL_act_297 (by decide) (fun c_297 => ?_) (fun c_297 => ?_)
                · skip
                  have c_297 : 1 = 0 := (nI_eq (a := 1) (b := 0) (by omega) (by omega)).mp c_297
                  exact absurd c_297 (by decide)
                · skip
                  have c_297 : ¬ 1 = 0 := fun z => c_297 ((nI_eq (a := 1) (b := 0) (by omega) (by omega)).mpr z)
                  refine lv_bipush (v := nI 17) hx hb dL_act_300 (by decide) ?_
                  refine lv_goto (tgt := 307) hx hb dL_act_302 (by decide) ?_
                  refine lv_isub hx hb dL_act_307 ?_
                  refine lv_iload_n hx hb dL_act_308 rfl (lv_at hl 7 rfl) ?_
                  refine lv_bipush (v := nI 9) hx hb dL_act_309 (by decide) ?_
                  refine lv_ishr hx hb dL_act_311 ?_
                  refine lv_bipush (v := nI 23) hx hb dL_act_312 (by decide) ?_
                  refine gc_Si (va_runS (As := [.int (v >>> ((nI 9) &&& 31)), .int (nI 23)]) (rest := [.int ((lowI (v >>> ((nI 20) &&& 31)) (nI 35)) - (nI 17)), .int (lowI (v >>> ((nI 16) &&& 31)) (nI 14)), .int (lowI (v >>> ((nI 12) &&& 31)) (nI 18)), .int (lowI (v >>> ((nI 8) &&& 31)) (nI 12)), .int ((lowI (v >>> ((nI 4) &&& 31)) (nI 18)) - (nI 1)), .ref (a 0)]) ⟨hx, hb, hml, hown, hts⟩ (c_L_low l D cy (v >>> ((nI 9) &&& 31)) (nI 23) (nI_ne0 (by decide) (by decide))) (va_cwS 2 hts gL_act_L_low rfl rfl rfl (by decide +kernel) ⟨Nat.le_of_ble_eq_true rfl, Nat.le_of_ble_eq_true rfl⟩) (gpSR hG (hP.sub [] rfl)) rfl rfl hl.1 rfl (lv_room (Nat.le_of_ble_eq_true rfl)) dL_act_314 ⟨Nat.zero_le _, Nat.zero_le _⟩) ?_
                  refine lv_bipush (v := nI 11) hx hb dL_act_317 (by decide) ?_
                  refine lv_isub hx hb dL_act_319 ?_
                  refine gc_Zi (wn := fun u : ob_T × ob_K => ob_w cy a q r u.1 u.2) (wr := []) (vx_runSW (As := [.ref (a 0), .int ((lowI (v >>> ((nI 4) &&& 31)) (nI 18)) - (nI 1)), .int (lowI (v >>> ((nI 8) &&& 31)) (nI 12)), .int (lowI (v >>> ((nI 12) &&& 31)) (nI 18)), .int (lowI (v >>> ((nI 16) &&& 31)) (nI 14)), .int ((lowI (v >>> ((nI 20) &&& 31)) (nI 35)) - (nI 17)), .int ((lowI (v >>> ((nI 9) &&& 31)) (nI 23)) - (nI 11))]) (rest := []) ⟨hx, hb, hml, hown, hts⟩ (c_L_copy l hst D cy sa H.size a q r x y hk ((lowI (v >>> ((nI 4) &&& 31)) (nI 18)) - (nI 1)) (lowI (v >>> ((nI 8) &&& 31)) (nI 12)) (lowI (v >>> ((nI 12) &&& 31)) (nI 18)) (lowI (v >>> ((nI 16) &&& 31)) (nI 14)) ((lowI (v >>> ((nI 20) &&& 31)) (nI 35)) - (nI 17)) ((lowI (v >>> ((nI 9) &&& 31)) (nI 23)) - (nI 11))) (vx_cwSW 7 hts gL_act_L_copy rfl rfl rfl (by decide +kernel) ⟨Nat.le_of_ble_eq_true rfl, Nat.le_of_ble_eq_true rfl⟩) (gpSZ hG hE hN9 hP hD hS hA [0, 1, 2, 3, 4, 5, 6, 7, 8, 9, 10, 11, 12, 13, 14, 15, 16, 17, 18, 19, 20, 21, 22, 23, 24, 25, 26] rfl (by decide)) rfl rfl hl.1 rfl (lv_room (Nat.le_of_ble_eq_true rfl)) dL_act_320 ⟨Nat.le_of_ble_eq_true rfl, Nat.le_of_ble_eq_true rfl⟩) hP hD hS hA [0, 1, 2, 3, 4, 5, 6, 7, 8, 9, 10, 11, 12, 13, 14, 15, 16, 17, 18, 19, 20, 21, 22, 23, 24, 25, 26] [] [0, 1, 2, 3, 4, 5, 6, 7, 8, 9, 10, 11, 12, 13, 14, 15, 16, 17, 18, 19, 20, 21, 22, 23, 24, 25, 26] rfl rfl (by decide) (by decide) (fun _ => rfl) (by decide) (fun r_320 u H locs hw_320 hP hD hS => ?_)
                  exact hret _ _ _ _ _ _ _ u dL_act_323 ⟨⟨_, _, _, _, _, _, _, _, Or.inl ⟨c_9, rfl, rfl, rfl, rfl, rfl, rfl, rfl, rfl⟩, Or.inr (Or.inr (Or.inr (Or.inl ⟨by first | exact Or.inl h_161 | exact Or.inr h_161, hw_320.1⟩)))⟩, hw_320.2⟩ hP hD hS (Nat.le_of_ble_eq_true rfl) (Nat.le_of_ble_eq_true rfl)
            · skip
              refine lv_tableIn (tgt := 269) (off := 108) hx hb dL_act_161 (by rw [h_161]; decide) (by rw [h_161]; decide) (by rw [h_161]; rfl) (by decide) ?_
              refine lv_aload_n hx hb dL_act_269 rfl (lv_at hl 6 rfl) ?_
              refine lv_iload hx hb dL_act_270 (lv_at hl 3 rfl) ?_
              refine lv_iload hx hb dL_act_272 (lv_at hl 2 rfl) ?_
              refine lv_iload hx hb dL_act_274 (lv_at hl 1 rfl) ?_
              refine lv_iload hx hb dL_act_276 (lv_at hl 0 rfl) ?_
              refine lv_iload_n hx hb dL_act_278 rfl (lv_at hl 7 rfl) ?_
              refine lv_bipush (v := nI 20) hx hb dL_act_279 (by decide) ?_
              refine lv_ishr hx hb dL_act_281 ?_
              refine lv_iload_n hx hb dL_act_282 rfl (lv_at hl 5 rfl) ?_
              refine lv_if_eq (tgt := 291) hx hb dL_act_283 (by decide) (fun c_283 => ?_) (fun c_283 => ?_)
              · skip
                have c_283 : 1 = 0 := (nI_eq (a := 1) (b := 0) (by omega) (by omega)).mp c_283
                exact absurd c_283 (by decide)
              · skip
                have c_283 : ¬ 1 = 0 := fun z => c_283 ((nI_eq (a := 1) (b := 0) (by omega) (by omega)).mpr z)
                refine lv_bipush (v := nI 35) hx hb dL_act_286 (by decide) ?_
                refine lv_goto (tgt := 293) hx hb dL_act_288 (by decide) ?_
                refine gc_Si (va_runS (As := [.int (v >>> ((nI 20) &&& 31)), .int (nI 35)]) (rest := [.int (lowI (v >>> ((nI 16) &&& 31)) (nI 14)), .int (lowI (v >>> ((nI 12) &&& 31)) (nI 18)), .int (lowI (v >>> ((nI 8) &&& 31)) (nI 12)), .int ((lowI (v >>> ((nI 4) &&& 31)) (nI 18)) - (nI 1)), .ref (a 0)]) ⟨hx, hb, hml, hown, hts⟩ (c_L_low l D cy (v >>> ((nI 20) &&& 31)) (nI 35) (nI_ne0 (by decide) (by decide))) (va_cwS 2 hts gL_act_L_low rfl rfl rfl (by decide +kernel) ⟨Nat.le_of_ble_eq_true rfl, Nat.le_of_ble_eq_true rfl⟩) (gpSR hG (hP.sub [] rfl)) rfl rfl hl.1 rfl (lv_room (Nat.le_of_ble_eq_true rfl)) dL_act_293 ⟨Nat.zero_le _, Nat.zero_le _⟩) ?_
                refine lv_iload_n hx hb dL_act_296 rfl (lv_at hl 5 rfl) ?_
                refine lv_if_eq (tgt := 305) hx hb dL_act_297 (by decide) (fun c_297 => ?_) (fun c_297 => ?_)
                · skip
                  have c_297 : 1 = 0 := (nI_eq (a := 1) (b := 0) (by omega) (by omega)).mp c_297
                  exact absurd c_297 (by decide)
                · skip
                  have c_297 : ¬ 1 = 0 := fun z => c_297 ((nI_eq (a := 1) (b := 0) (by omega) (by omega)).mpr z)
                  refine lv_bipush (v := nI 17) hx hb dL_act_300 (by decide) ?_
                  refine lv_goto (tgt := 307) hx hb dL_act_302 (by decide) ?_
                  refine lv_isub hx hb dL_act_307 ?_
                  refine lv_iload_n hx hb dL_act_308 rfl (lv_at hl 7 rfl) ?_
                  refine lv_bipush (v := nI 9) hx hb dL_act_309 (by decide) ?_
                  refine lv_ishr hx hb dL_act_311 ?_
                  refine lv_bipush (v := nI 23) hx hb dL_act_312 (by decide) ?_
                  refine gc_Si (va_runS (As := [.int (v >>> ((nI 9) &&& 31)), .int (nI 23)]) (rest := [.int ((lowI (v >>> ((nI 20) &&& 31)) (nI 35)) - (nI 17)), .int (lowI (v >>> ((nI 16) &&& 31)) (nI 14)), .int (lowI (v >>> ((nI 12) &&& 31)) (nI 18)), .int (lowI (v >>> ((nI 8) &&& 31)) (nI 12)), .int ((lowI (v >>> ((nI 4) &&& 31)) (nI 18)) - (nI 1)), .ref (a 0)]) ⟨hx, hb, hml, hown, hts⟩ (c_L_low l D cy (v >>> ((nI 9) &&& 31)) (nI 23) (nI_ne0 (by decide) (by decide))) (va_cwS 2 hts gL_act_L_low rfl rfl rfl (by decide +kernel) ⟨Nat.le_of_ble_eq_true rfl, Nat.le_of_ble_eq_true rfl⟩) (gpSR hG (hP.sub [] rfl)) rfl rfl hl.1 rfl (lv_room (Nat.le_of_ble_eq_true rfl)) dL_act_314 ⟨Nat.zero_le _, Nat.zero_le _⟩) ?_
                  refine lv_bipush (v := nI 11) hx hb dL_act_317 (by decide) ?_
                  refine lv_isub hx hb dL_act_319 ?_
                  refine gc_Zi (wn := fun u : ob_T × ob_K => ob_w cy a q r u.1 u.2) (wr := []) (vx_runSW (As := [.ref (a 0), .int ((lowI (v >>> ((nI 4) &&& 31)) (nI 18)) - (nI 1)), .int (lowI (v >>> ((nI 8) &&& 31)) (nI 12)), .int (lowI (v >>> ((nI 12) &&& 31)) (nI 18)), .int (lowI (v >>> ((nI 16) &&& 31)) (nI 14)), .int ((lowI (v >>> ((nI 20) &&& 31)) (nI 35)) - (nI 17)), .int ((lowI (v >>> ((nI 9) &&& 31)) (nI 23)) - (nI 11))]) (rest := []) ⟨hx, hb, hml, hown, hts⟩ (c_L_copy l hst D cy sa H.size a q r x y hk ((lowI (v >>> ((nI 4) &&& 31)) (nI 18)) - (nI 1)) (lowI (v >>> ((nI 8) &&& 31)) (nI 12)) (lowI (v >>> ((nI 12) &&& 31)) (nI 18)) (lowI (v >>> ((nI 16) &&& 31)) (nI 14)) ((lowI (v >>> ((nI 20) &&& 31)) (nI 35)) - (nI 17)) ((lowI (v >>> ((nI 9) &&& 31)) (nI 23)) - (nI 11))) (vx_cwSW 7 hts gL_act_L_copy rfl rfl rfl (by decide +kernel) ⟨Nat.le_of_ble_eq_true rfl, Nat.le_of_ble_eq_true rfl⟩) (gpSZ hG hE hN9 hP hD hS hA [0, 1, 2, 3, 4, 5, 6, 7, 8, 9, 10, 11, 12, 13, 14, 15, 16, 17, 18, 19, 20, 21, 22, 23, 24, 25, 26] rfl (by decide)) rfl rfl hl.1 rfl (lv_room (Nat.le_of_ble_eq_true rfl)) dL_act_320 ⟨Nat.le_of_ble_eq_true rfl, Nat.le_of_ble_eq_true rfl⟩) hP hD hS hA [0, 1, 2, 3, 4, 5, 6, 7, 8, 9, 10, 11, 12, 13, 14, 15, 16, 17, 18, 19, 20, 21, 22, 23, 24, 25, 26] [] [0, 1, 2, 3, 4, 5, 6, 7, 8, 9, 10, 11, 12, 13, 14, 15, 16, 17, 18, 19, 20, 21, 22, 23, 24, 25, 26] rfl rfl (by decide) (by decide) (fun _ => rfl) (by decide) (fun r_320 u H locs hw_320 hP hD hS => ?_)
                  exact hret _ _ _ _ _ _ _ u dL_act_323 ⟨⟨_, _, _, _, _, _, _, _, Or.inl ⟨c_9, rfl, rfl, rfl, rfl, rfl, rfl, rfl, rfl⟩, Or.inr (Or.inr (Or.inr (Or.inl ⟨by first | exact Or.inl h_161 | exact Or.inr h_161, hw_320.1⟩)))⟩, hw_320.2⟩ hP hD hS (Nat.le_of_ble_eq_true rfl) (Nat.le_of_ble_eq_true rfl)
            · skip
              refine lv_tableOut (tgt := 324) hx hb dL_act_161 (h_161) (by decide) ?_
              refine lv_aload_n hx hb dL_act_324 rfl (lv_at hl 6 rfl) ?_
              refine lv_iload hx hb dL_act_325 (lv_at hl 3 rfl) ?_
              refine lv_iload hx hb dL_act_327 (lv_at hl 2 rfl) ?_
              refine lv_iload hx hb dL_act_329 (lv_at hl 1 rfl) ?_
              refine lv_iload hx hb dL_act_331 (lv_at hl 0 rfl) ?_
              refine lv_iload_n hx hb dL_act_333 rfl (lv_at hl 5 rfl) ?_
              refine lv_if_eq (tgt := 351) hx hb dL_act_334 (by decide) (fun c_334 => ?_) (fun c_334 => ?_)
              · skip
                have c_334 : 1 = 0 := (nI_eq (a := 1) (b := 0) (by omega) (by omega)).mp c_334
                exact absurd c_334 (by decide)
              · skip
                have c_334 : ¬ 1 = 0 := fun z => c_334 ((nI_eq (a := 1) (b := 0) (by omega) (by omega)).mpr z)
                refine lv_iload_n hx hb dL_act_337 rfl (lv_at hl 7 rfl) ?_
                refine lv_bipush (v := nI 20) hx hb dL_act_338 (by decide) ?_
                refine lv_ishr hx hb dL_act_340 ?_
                refine lv_bipush (v := nI 18) hx hb dL_act_341 (by decide) ?_
                refine gc_Si (va_runS (As := [.int (v >>> ((nI 20) &&& 31)), .int (nI 18)]) (rest := [.int (lowI (v >>> ((nI 16) &&& 31)) (nI 14)), .int (lowI (v >>> ((nI 12) &&& 31)) (nI 18)), .int (lowI (v >>> ((nI 8) &&& 31)) (nI 12)), .int ((lowI (v >>> ((nI 4) &&& 31)) (nI 18)) - (nI 1)), .ref (a 0)]) ⟨hx, hb, hml, hown, hts⟩ (c_L_low l D cy (v >>> ((nI 20) &&& 31)) (nI 18) (nI_ne0 (by decide) (by decide))) (va_cwS 2 hts gL_act_L_low rfl rfl rfl (by decide +kernel) ⟨Nat.le_of_ble_eq_true rfl, Nat.le_of_ble_eq_true rfl⟩) (gpSR hG (hP.sub [] rfl)) rfl rfl hl.1 rfl (lv_room (Nat.le_of_ble_eq_true rfl)) dL_act_343 ⟨Nat.zero_le _, Nat.zero_le _⟩) ?_
                refine lv_iconst (v := nI 1) hx hb dL_act_346 (by decide) ?_
                refine lv_isub hx hb dL_act_347 ?_
                refine lv_goto (tgt := 359) hx hb dL_act_348 (by decide) ?_
                refine gc_Zi (wn := fun u : ob_T × ob_K => ob_w cy a q r u.1 u.2) (wr := []) (vx_runSW (As := [.ref (a 0), .int ((lowI (v >>> ((nI 4) &&& 31)) (nI 18)) - (nI 1)), .int (lowI (v >>> ((nI 8) &&& 31)) (nI 12)), .int (lowI (v >>> ((nI 12) &&& 31)) (nI 18)), .int (lowI (v >>> ((nI 16) &&& 31)) (nI 14)), .int ((lowI (v >>> ((nI 20) &&& 31)) (nI 18)) - (nI 1))]) (rest := []) ⟨hx, hb, hml, hown, hts⟩ (c_L_fill l hst D cy sa H.size a q r x y hk ((lowI (v >>> ((nI 4) &&& 31)) (nI 18)) - (nI 1)) (lowI (v >>> ((nI 8) &&& 31)) (nI 12)) (lowI (v >>> ((nI 12) &&& 31)) (nI 18)) (lowI (v >>> ((nI 16) &&& 31)) (nI 14)) ((lowI (v >>> ((nI 20) &&& 31)) (nI 18)) - (nI 1))) (vx_cwSW 6 hts gL_act_L_fill rfl rfl rfl (by decide +kernel) ⟨Nat.le_of_ble_eq_true rfl, Nat.le_of_ble_eq_true rfl⟩) (gpSZ hG hE hN9 hP hD hS hA [0, 1, 2, 3, 4, 5, 6, 7, 8, 9, 10, 11, 12, 13, 14, 15, 16, 17, 18, 19, 20, 21, 22, 23, 24, 25, 26] rfl (by decide)) rfl rfl hl.1 rfl (lv_room (Nat.le_of_ble_eq_true rfl)) dL_act_359 ⟨Nat.le_of_ble_eq_true rfl, Nat.le_of_ble_eq_true rfl⟩) hP hD hS hA [0, 1, 2, 3, 4, 5, 6, 7, 8, 9, 10, 11, 12, 13, 14, 15, 16, 17, 18, 19, 20, 21, 22, 23, 24, 25, 26] [] [0, 1, 2, 3, 4, 5, 6, 7, 8, 9, 10, 11, 12, 13, 14, 15, 16, 17, 18, 19, 20, 21, 22, 23, 24, 25, 26] rfl rfl (by decide) (by decide) (fun _ => rfl) (by decide) (fun r_359 u H locs hw_359 hP hD hS => ?_)
                exact hret _ _ _ _ _ _ _ u dL_act_362 ⟨⟨_, _, _, _, _, _, _, _, Or.inl ⟨c_9, rfl, rfl, rfl, rfl, rfl, rfl, rfl, rfl⟩, Or.inr (Or.inr (Or.inr (Or.inr ⟨h_161, hw_359.1⟩)))⟩, hw_359.2⟩ hP hD hS (Nat.le_of_ble_eq_true rfl) (Nat.le_of_ble_eq_true rfl)
