/-! constructors -/
/-! constructors -/
theorem g_cls {D : va_G} {tys : List (ClassId × FieldType)} {s : State} {cA cB : ClassId} {ty : FieldType} {t0 : Nat} (hK : va_K D vwCl (tys ++ [(cA, ty)]) s) (ht : tys[t0]? = some (cB, ty)) (hp : ∀ c : ClassId, va_RA s c ty → s.vm.findClass ("[" ++ ty.toString) = some c) : cA = cB := by
  have h1 := hp _ (hK.2 tys.length (cA, ty) (by rw [List.getElem?_append_right (Nat.le_refl _), Nat.sub_self]; rfl)).2
  have h2 := hp _ (hK.2 t0 (cB, ty) (by rw [List.getElem?_append_left (List.getElem?_eq_some_iff.mp ht).1]; exact ht)).2
  exact Option.some.inj (h1.symm.trans h2)
section GN
variable {p : Program} {l : Launch} {e : Env} {R : Room} {s : State} {m : MethodId} {args : Array Value} {below : List Frame} {meth : Method} {c : Code} {H : Heap} {locs : List Loc} {cells slots : Nat} {Q : State → Prop}
variable {pc : Nat} {ls : Array Slot} {rest st0 : List Value} {a : Array Value} {D : va_G} {tys : List (ClassId × FieldType)} {cc : ByteArray} {A : Nat → Prop} {ws : va_W} {H0 : Heap}
theorem g_newI (hexec : p.tables.exec = Jvm.exec) (hb : c.code = cc) (harr : (Cond.arrayClass .int).before args s = true) (hG : gG D tys s) (hP : va_P D vwCl ws H) (hD : va_D A ws) (hS : va_S A H0 H locs) (hA : ∀ q, H0.size ≤ q → A q) (t0 : Nat) {cA : ClassId} (ht : tys[t0]? = some (cA, .int)) {n : Nat} (hn : n < 2 ^ 31) (hby : n * 4 ≤ 536870912) (hcells : cells + 1 ≤ R.cells) (hslots : slots + n ≤ R.slots) (hdg : decode cc pc = .ok (.newarray .int, 2))
    (kk : ∀ (q : Nat) (H1 : Heap), va_P D vwCl (ws ++ [(q, .inl (cA, n, .inl (fun _ => 0)))]) H1 → va_D A (ws ++ [(q, .inl (cA, n, .inl (fun _ => 0)))]) → va_S A H0 H1 locs → W p l e R s m args below meth c H1 locs (cells + 1) (slots + n) Q (F0 m (pc + 2) ls (.ref q :: rest))) : W p l e R s m args below meth c H locs cells slots Q (F0 m pc ls (.int (nI n) :: rest)) := by
  refine va_newa (atype := .int) (ty := .int) (a0 := (n, .inl (fun _ => 0))) hexec hb harr rfl hG.1 hP hD hS hA (fun _ => rfl) (nI_pos hn) (nI_clamp hn) hby hcells hslots hdg (fun q cB H1 hK hP1 hD1 hS1 => ?_)
  cases g_cls hK ht (fun _ h => h)
  exact kk q H1 hP1 hD1 hS1
theorem g_newJ (hexec : p.tables.exec = Jvm.exec) (hb : c.code = cc) (harr : (Cond.arrayClass .long).before args s = true) (hG : gG D tys s) (hP : va_P D vwCl ws H) (hD : va_D A ws) (hS : va_S A H0 H locs) (hA : ∀ q, H0.size ≤ q → A q) (t0 : Nat) {cA : ClassId} (ht : tys[t0]? = some (cA, .long)) {n : Nat} (hn : n < 2 ^ 31) (hby : n * 8 ≤ 536870912) (hcells : cells + 1 ≤ R.cells) (hslots : slots + n ≤ R.slots) (hdg : decode cc pc = .ok (.newarray .long, 2))
    (kk : ∀ (q : Nat) (H1 : Heap), va_P D vwCl (ws ++ [(q, .inl (cA, n, .inr (.inl (fun _ => 0))))]) H1 → va_D A (ws ++ [(q, .inl (cA, n, .inr (.inl (fun _ => 0))))]) → va_S A H0 H1 locs → W p l e R s m args below meth c H1 locs (cells + 1) (slots + n) Q (F0 m (pc + 2) ls (.ref q :: rest))) : W p l e R s m args below meth c H locs cells slots Q (F0 m pc ls (.int (nI n) :: rest)) := by
  refine va_newa (atype := .long) (ty := .long) (a0 := (n, .inr (.inl (fun _ => 0)))) hexec hb harr rfl hG.1 hP hD hS hA (fun _ => rfl) (nI_pos hn) (nI_clamp hn) hby hcells hslots hdg (fun q cB H1 hK hP1 hD1 hS1 => ?_)
  cases g_cls hK ht (fun _ h => h)
  exact kk q H1 hP1 hD1 hS1
theorem g_newZ (hexec : p.tables.exec = Jvm.exec) (hb : c.code = cc) (harr : (Cond.arrayClass .boolean).before args s = true) (hG : gG D tys s) (hP : va_P D vwCl ws H) (hD : va_D A ws) (hS : va_S A H0 H locs) (hA : ∀ q, H0.size ≤ q → A q) (t0 : Nat) {cA : ClassId} (ht : tys[t0]? = some (cA, .boolean)) {n : Nat} (hn : n < 2 ^ 31) (hby : n * 1 ≤ 536870912) (hcells : cells + 1 ≤ R.cells) (hslots : slots + n ≤ R.slots) (hdg : decode cc pc = .ok (.newarray .boolean, 2))
    (kk : ∀ (q : Nat) (H1 : Heap), va_P D vwCl (ws ++ [(q, .inl (cA, n, .inl (fun _ => 0)))]) H1 → va_D A (ws ++ [(q, .inl (cA, n, .inl (fun _ => 0)))]) → va_S A H0 H1 locs → W p l e R s m args below meth c H1 locs (cells + 1) (slots + n) Q (F0 m (pc + 2) ls (.ref q :: rest))) : W p l e R s m args below meth c H locs cells slots Q (F0 m pc ls (.int (nI n) :: rest)) := by
  refine va_newa (atype := .boolean) (ty := .boolean) (a0 := (n, .inl (fun _ => 0))) hexec hb harr rfl hG.1 hP hD hS hA (fun _ => rfl) (nI_pos hn) (nI_clamp hn) hby hcells hslots hdg (fun q cB H1 hK hP1 hD1 hS1 => ?_)
  cases g_cls hK ht (fun _ h => h)
  exact kk q H1 hP1 hD1 hS1
theorem gc_Cv {S : Type} {post : S → Prop} {wo : S → va_W} {wc wr : va_W} {A0 : Nat → Prop} {mc ms : Nat} (hr : va_Run p l e R s m args below meth c H locs cells slots mc ms (F0 m pc ls st0) rest (va_Qv post (gO D wo (va_A wc H.size)) (va_A wc H.size) a) (va_A wc H.size))
    (hP : va_P D vwCl ws H) (hD : va_D A0 ws) (hS : va_S A0 H0 H locs) (hA : ∀ q, H0.size ≤ q → A0 q) (isC isR : List Nat) (hC : isC.map (fun i => ws[i]?) = wc.map some) (hR : isR.map (fun i => ws[i]?) = wr.map some) (hn : va_nd isR = true) (hdis : ∀ i ∈ isR, i ∉ isC)
    (kk : ∀ (u : S) (H1 : Heap) (locs1 : List Loc), post u → va_P D vwCl (wr ++ wo u) H1 → va_D A0 (wr ++ wo u) → va_S A0 H0 H1 locs1 → W p l e R s m args below meth c H1 locs1 (cells + mc) (slots + ms) Q (F0 m (pc + 3) ls rest)) : W p l e R s m args below meth c H locs cells slots Q (F0 m pc ls st0) := by
  have hF := va_free (wc := wc) hD hS hA isC hC
  refine va_callv hr hS (fun q _ h => hF q h) hF (fun u t H1 locs1 ht hvm hw hB hz1 hk1 hS1 => ?_)
  obtain ⟨hP1, hD1⟩ := hB
  rw [ht] at hP1
  obtain ⟨hP2, hD2⟩ := va_join hP hD isC isR hC hR hn hdis hk1 hF hP1 hD1
  exact kk u H1 locs1 hw hP2 hD2 hS1
end GN
theorem gW_c {l : Launch} {y : MethodName} {ws ws' : List Cond} {rm : Room} {cc : ByteArray} {maxL : Nat} {av : List Value} {D : va_G} {tys : List (ClassId × FieldType)} {wd : va_W} {S : Type} {post : S → Prop} {wo : S → va_W} {sz mc ms : Nat} (hy : plainName y.cls = true) (hw : ws = Cond.code y cc maxL none :: ws') (hlen : (lg_sl av).length ≤ maxL) (hyn : y.name = "<init>")
    (body : ∀ (p : Program) (e : Env) (s : State) (m : MethodId) (below : List Frame) (meth : Method) (c : Code) (Q : State → Prop) (A : Nat → Prop) (ls : Array Slot), gFx y.cls cc maxL ws p s m av.toArray meth c → meth.name = "<init>" → va_P D vwCl wd s.heap → gG D tys s → va_D A wd → (∀ q : Nat, s.heap.size ≤ q → A q) →
      (∀ (H : Heap) (locs : List Loc) (cells slots : Nat) (pc : Nat) (ls : Array Slot) (u : S), decode cc pc = .ok (.return_, 1) → post u → va_P D vwCl (wo u) H → va_D A (wo u) → va_S A s.heap H locs → cells ≤ mc → slots ≤ ms → W p l e rm s m av.toArray below meth c H locs cells slots Q (F0 m pc ls [])) →
      lv_has ls maxL (lv_args 0 av) → W p l e rm s m av.toArray below meth c s.heap [] 0 0 Q (F0 m 0 ls [])) : Met l y ws rm (va_Pc av (gI D tys wd sz)) (va_Qv post (gO D wo (va_A wd sz)) (va_A wd sz)) mc ms (va_A wd sz) := by
  refine Met.ofW (cc := cc) (maxL := maxL) (ret := none) hy hw ?_
  intro p e s m args below meth c s₁ B hml hv
  obtain ⟨rfl, hsz, hP, hG, hD⟩ := hv
  subst hsz
  rw [lg_entry_eq]
  exact body p e s m below meth c _ (va_A wd s.heap.size) _ ⟨B.exec, B.bytes, hml, findClass_of_methodNamed B.named, atoms_spec (ws := ws) B.pre, B.notSynchronized⟩ ((name_of_methodNamed B.named B.method).1.trans hyn) hP hG hD.self (fun q h => Or.inr h)
    (fun H locs cells slots pc ls u hd hp hPo hDo hS h1 h2 => W.widen h1 h2 (W.vret B.exec B.bytes B.returns (fun t ht hW => ⟨⟨u, rfl, hp, by rw [ht]; exact hPo, hDo⟩, hS.F ht⟩) hS.2.2 hd B.notSynchronized)) (lv_entry av hlen)
theorem iX0_init_X0 : ∀ w ∈ wsX00, w ∈ wsX0_init := by decide +kernel
set_option maxHeartbeats 4000000 in
set_option maxRecDepth 100000 in
theorem c_X0_init (l : Launch) (D : va_G) (cy : Nat → ClassId) (sz : Nat) (h : Nat) : Met l yX0_init wsX0_init ({ frames := 1, cells := 1, slots := 6, locals := 12 } : Room) (va_Pc [.ref h] (gI D (gT cy) [(h, .inr (0, [.null, .int 0]))] sz)) (va_Qv (fun u : Nat => True) (gO D (fun u : Nat => [(h, eCch u (nI 0)), (u, eJ cy 6 (fun _ => 0))]) (va_A [(h, .inr (0, [.null, .int 0]))] sz)) (va_A [(h, .inr (0, [.null, .int 0]))] sz)) 1 6 (va_A [(h, .inr (0, [.null, .int 0]))] sz) := by
  refine gW_c (cc := cX0_init) (maxL := 1) (by decide) rfl (Nat.le_of_ble_eq_true rfl) rfl ?_
  intro pp ee ss mm bw mt cd QQ AA ls hfx hin hP hG hD hA hret hl
  have hS : va_S AA ss.heap ss.heap [] := va_S.rf
  obtain ⟨hx, hb, hml, hown, hts, hlocks⟩ := hfx
  have hown : ss.vm.findClass RX0 = some mm.cls := hown
  have hl : lv_has ls 1 [(0, .ref h)] := hl
  have hP : va_P D vwCl [(h, .inr (0, [.null, .int 0]))] ss.heap := hP
  refine lv_aload_n hx hb dX0_init_0 rfl (lv_at hl 0 rfl) ?_
  refine W.objInit hx hb hown (hts (.methodLink RX0 3 objectInit) (by decide +kernel)) (hts (.instanceMethod objectInit) (by decide +kernel)) (hts (.code objectInit ⟨#[0xb1]⟩ 1 none) (by decide +kernel)) rfl (by rw [hml]; exact hl.1) rfl dX0_init_1 (Nat.le_of_ble_eq_true rfl) (Nat.le_of_ble_eq_true rfl) ?_
  refine W.eq (g2 := F0 mm 4 ls []) rfl ?_
  refine lv_aload_n hx hb dX0_init_4 rfl (lv_at hl 0 rfl) ?_
  refine lv_bipush (v := nI 6) hx hb dX0_init_5 (by decide) ?_
  refine g_newJ hx hb (hts (.arrayClass .long) (by decide +kernel)) hG hP hD hS hA 1 rfl (n := 6) (by decide) (by decide) (Nat.le_of_ble_eq_true rfl) (Nat.le_of_ble_eq_true rfl) dX0_init_7 (fun w7 H hP hD hS => ?_)
  have hP : va_P D vwCl [(h, .inr (0, [.null, .int 0])), (w7, eJ cy 6 (fun _ => 0))] H := hP
  have hD : va_D AA [(h, .inr (0, [.null, .int 0])), (w7, eJ cy 6 (fun _ => 0))] := hD
  refine va_putF (D := D) (ci := 0) (v := .ref w7) (ty := .array .long) (C := RX0) (T := TX0) (N := 2) hx hb hts iX0_init_X0 tyX0 tyX0_ok nmX0 hown hG.1 hP hD hS 0 rfl rfl 0 (by decide) (hts (.fieldLink RX0 9 "DirtyTiles$Cache" "tiles" "[J") (by decide +kernel)) (fun _ h9 => h9) rfl hin rfl (by decide +kernel) rfl rfl (Nat.le_of_ble_eq_true rfl) dX0_init_9 (fun H locs hP hD hS => ?_)
  have hP : va_P D vwCl [(h, .inr (0, [.ref w7, .int 0])), (w7, eJ cy 6 (fun _ => 0))] H := hP
  have hD : va_D AA [(h, .inr (0, [.ref w7, .int 0])), (w7, eJ cy 6 (fun _ => 0))] := hD
  refine lv_aload_n hx hb dX0_init_12 rfl (lv_at hl 0 rfl) ?_
  refine lv_iconst (v := nI 0) hx hb dX0_init_13 (by decide) ?_
  refine va_put (D := D) (ci := 0) (v := .int (nI 0)) (ty := .int) (C := RX0) (T := TX0) (N := 2) hx hb hts iX0_init_X0 tyX0 tyX0_ok nmX0 hown hG.1 hP hD hS 0 rfl rfl 1 (by decide) (hts (.fieldLink RX0 15 "DirtyTiles$Cache" "count" "I") (by decide +kernel)) (fun _ h9 => h9) rfl (by decide +kernel) rfl rfl (Nat.le_of_ble_eq_true rfl) dX0_init_14 (fun H locs hP hD hS => ?_)
  have hP : va_P D vwCl [(h, .inr (0, [.ref w7, .int (nI 0)])), (w7, eJ cy 6 (fun _ => 0))] H := hP
  have hD : va_D AA [(h, .inr (0, [.ref w7, .int (nI 0)])), (w7, eJ cy 6 (fun _ => 0))] := hD
  exact hret _ _ _ _ _ _ (w7) dX0_init_17 (trivial) (hP.sub [0, 1] rfl) (hD.sub [0, 1] (by decide) rfl) hS (Nat.le_of_ble_eq_true rfl) (Nat.le_of_ble_eq_true rfl)
theorem iX2_init_X2 : ∀ w ∈ wsX20, w ∈ wsX2_init := by decide +kernel
set_option maxHeartbeats 4000000 in
set_option maxRecDepth 100000 in
theorem c_X2_init (l : Launch) (D : va_G) (cy : Nat → ClassId) (sz : Nat) (h : Nat) : Met l yX2_init wsX2_init ({ frames := 1, cells := 1, slots := 12, locals := 12 } : Room) (va_Pc [.ref h] (gI D (gT cy) [(h, .inr (2, [.null]))] sz)) (va_Qv (fun u : Nat => True) (gO D (fun u : Nat => [(h, eScr u), (u, eJ cy 12 (fun _ => 0))]) (va_A [(h, .inr (2, [.null]))] sz)) (va_A [(h, .inr (2, [.null]))] sz)) 1 12 (va_A [(h, .inr (2, [.null]))] sz) := by
  refine gW_c (cc := cX2_init) (maxL := 1) (by decide) rfl (Nat.le_of_ble_eq_true rfl) rfl ?_
  intro pp ee ss mm bw mt cd QQ AA ls hfx hin hP hG hD hA hret hl
  have hS : va_S AA ss.heap ss.heap [] := va_S.rf
  obtain ⟨hx, hb, hml, hown, hts, hlocks⟩ := hfx
  have hown : ss.vm.findClass RX2 = some mm.cls := hown
  have hl : lv_has ls 1 [(0, .ref h)] := hl
  have hP : va_P D vwCl [(h, .inr (2, [.null]))] ss.heap := hP
  refine lv_aload_n hx hb dX2_init_0 rfl (lv_at hl 0 rfl) ?_
  refine W.objInit hx hb hown (hts (.methodLink RX2 3 objectInit) (by decide +kernel)) (hts (.instanceMethod objectInit) (by decide +kernel)) (hts (.code objectInit ⟨#[0xb1]⟩ 1 none) (by decide +kernel)) rfl (by rw [hml]; exact hl.1) rfl dX2_init_1 (Nat.le_of_ble_eq_true rfl) (Nat.le_of_ble_eq_true rfl) ?_
  refine W.eq (g2 := F0 mm 4 ls []) rfl ?_
  refine lv_aload_n hx hb dX2_init_4 rfl (lv_at hl 0 rfl) ?_
  refine lv_bipush (v := nI 12) hx hb dX2_init_5 (by decide) ?_
  refine g_newJ hx hb (hts (.arrayClass .long) (by decide +kernel)) hG hP hD hS hA 1 rfl (n := 12) (by decide) (by decide) (Nat.le_of_ble_eq_true rfl) (Nat.le_of_ble_eq_true rfl) dX2_init_7 (fun w7 H hP hD hS => ?_)
  have hP : va_P D vwCl [(h, .inr (2, [.null])), (w7, eJ cy 12 (fun _ => 0))] H := hP
  have hD : va_D AA [(h, .inr (2, [.null])), (w7, eJ cy 12 (fun _ => 0))] := hD
  refine va_putF (D := D) (ci := 2) (v := .ref w7) (ty := .array .long) (C := RX2) (T := TX2) (N := 1) hx hb hts iX2_init_X2 tyX2 tyX2_ok nmX2 hown hG.1 hP hD hS 0 rfl rfl 0 (by decide) (hts (.fieldLink RX2 9 "DirtyTiles$Screen" "tiles" "[J") (by decide +kernel)) (fun _ h9 => h9) rfl hin rfl (by decide +kernel) rfl rfl (Nat.le_of_ble_eq_true rfl) dX2_init_9 (fun H locs hP hD hS => ?_)
  have hP : va_P D vwCl [(h, .inr (2, [.ref w7])), (w7, eJ cy 12 (fun _ => 0))] H := hP
  have hD : va_D AA [(h, .inr (2, [.ref w7])), (w7, eJ cy 12 (fun _ => 0))] := hD
  exact hret _ _ _ _ _ _ (w7) dX2_init_12 (trivial) (hP.sub [0, 1] rfl) (hD.sub [0, 1] (by decide) rfl) hS (Nat.le_of_ble_eq_true rfl) (Nat.le_of_ble_eq_true rfl)
theorem iX1_init_X0 : ∀ w ∈ wsX00, w ∈ wsX1_init := by decide +kernel
theorem iX1_init_X1 : ∀ w ∈ wsX10, w ∈ wsX1_init := by decide +kernel
theorem iX1_init_X2 : ∀ w ∈ wsX20, w ∈ wsX1_init := by decide +kernel
set_option maxHeartbeats 4000000 in
set_option maxRecDepth 100000 in
theorem c_X1_init (l : Launch) (D : va_G) (cy : Nat → ClassId) (sz : Nat) (h : Nat) : Met l yX1_init wsX1_init ({ frames := 2, cells := 9, slots := 65, locals := 32 } : Room) (va_Pc [.ref h] (gI D (gT cy) [(h, .inr (1, [.int 0, .null, .null, .null, .null, .int 0, .null, .null, .int 0]))] sz)) (va_Qv (fun u : (Nat → Nat) => True) (gO D (fun u : (Nat → Nat) => [(h, eCli (gb (False)) (u 1) (u 3) (u 5) (u 7) (nI 0) (u 8) (u 9) (nI 0)), (u 1, eScr (u 2)), (u 2, eJ cy 12 (fun _ => 0)), (u 3, eCch (u 4) (nI 0)), (u 4, eJ cy 6 (fun _ => 0)), (u 5, eCch (u 6) (nI 0)), (u 6, eJ cy 6 (fun _ => 0)), (u 7, eI cy 12 (fun _ => 0)), (u 8, eI cy 12 (fun _ => 0)), (u 9, eJ cy 12 (fun _ => 0))]) (va_A [(h, .inr (1, [.int 0, .null, .null, .null, .null, .int 0, .null, .null, .int 0]))] sz)) (va_A [(h, .inr (1, [.int 0, .null, .null, .null, .null, .int 0, .null, .null, .int 0]))] sz)) 9 65 (va_A [(h, .inr (1, [.int 0, .null, .null, .null, .null, .int 0, .null, .null, .int 0]))] sz) := by
  refine gW_c (cc := cX1_init) (maxL := 1) (by decide) rfl (Nat.le_of_ble_eq_true rfl) rfl ?_
  intro pp ee ss mm bw mt cd QQ AA ls hfx hin hP hG hD hA hret hl
  have hS : va_S AA ss.heap ss.heap [] := va_S.rf
  obtain ⟨hx, hb, hml, hown, hts, hlocks⟩ := hfx
  have hown : ss.vm.findClass RX1 = some mm.cls := hown
  have hl : lv_has ls 1 [(0, .ref h)] := hl
  have hP : va_P D vwCl [(h, .inr (1, [.int 0, .null, .null, .null, .null, .int 0, .null, .null, .int 0]))] ss.heap := hP
  refine lv_aload_n hx hb dX1_init_0 rfl (lv_at hl 0 rfl) ?_
  refine W.objInit hx hb hown (hts (.methodLink RX1 3 objectInit) (by decide +kernel)) (hts (.instanceMethod objectInit) (by decide +kernel)) (hts (.code objectInit ⟨#[0xb1]⟩ 1 none) (by decide +kernel)) rfl (by rw [hml]; exact hl.1) rfl dX1_init_1 (Nat.le_of_ble_eq_true rfl) (Nat.le_of_ble_eq_true rfl) ?_
  refine W.eq (g2 := F0 mm 4 ls []) rfl ?_
  refine lv_aload_n hx hb dX1_init_4 rfl (lv_at hl 0 rfl) ?_
  refine lv_iconst (v := nI 0) hx hb dX1_init_5 (by decide) ?_
  refine g_ti (y := gb (False)) ((gb_f id).symm) ?_
  refine va_put (D := D) (ci := 1) (v := .int (gb (False))) (ty := .boolean) (C := RX1) (T := TX1) (N := 9) hx hb hts iX1_init_X1 tyX1 tyX1_ok nmX1 hown hG.1 hP hD hS 0 rfl rfl 0 (by decide) (hts (.fieldLink RX1 9 "DirtyTiles$Client" "joined" "Z") (by decide +kernel)) (fun _ h9 => h9) rfl (by decide +kernel) (gb_nar _) (gb_fit _) (Nat.le_of_ble_eq_true rfl) dX1_init_6 (fun H locs hP hD hS => ?_)
  have hP : va_P D vwCl [(h, .inr (1, [.int (gb (False)), .null, .null, .null, .null, .int 0, .null, .null, .int 0]))] H := hP
  have hD : va_D AA [(h, .inr (1, [.int (gb (False)), .null, .null, .null, .null, .int 0, .null, .null, .int 0]))] := hD
  refine lv_aload_n hx hb dX1_init_9 rfl (lv_at hl 0 rfl) ?_
  refine va_new (ci := 2) (fs := [.null]) (C := RX2) (T := TX2) (N := 1) hx hb hts iX1_init_X2 tyX2 tyX2_ok hown (hts (.classLink RX1 15 RX2) (by decide +kernel)) (hts (.instantiable RX2 1) (by decide +kernel)) (hts (.initialized RX2) (by decide +kernel)) hG.1 hP hD hS hA rfl (fun j hj => by rcases (show j = 0 by omega) with rfl <;> rfl) (Nat.le_of_ble_eq_true rfl) (Nat.le_of_ble_eq_true rfl) dX1_init_10 (fun w10 H hP hD hS => ?_)
  have hP : va_P D vwCl [(h, .inr (1, [.int (gb (False)), .null, .null, .null, .null, .int 0, .null, .null, .int 0])), (w10, .inr (2, [.null]))] H := hP
  have hD : va_D AA [(h, .inr (1, [.int (gb (False)), .null, .null, .null, .null, .int 0, .null, .null, .int 0])), (w10, .inr (2, [.null]))] := hD
  refine lv_dup hx hb dX1_init_13 rfl ?_
  refine gc_Cv (wr := [(h, .inr (1, [.int (gb (False)), .null, .null, .null, .null, .int 0, .null, .null, .int 0]))]) (va_runIN (host := RX3) (As := []) (rest := [.ref w10, .ref h]) ⟨hx, hb, hml, hown, hts⟩ (c_X2_init l D cy H.size w10) ⟨va_cnB 0 hts gX1_init_X2_init_n17 rfl rfl rfl hG.2.2.1 (hts (.initialized RX2) (by decide +kernel)) (by decide +kernel) ⟨Nat.le_of_ble_eq_true rfl, Nat.le_of_ble_eq_true rfl⟩, rfl, (hts (.instanceMethod yX2_init) (by decide +kernel))⟩ (gpSI hG (hP.sub [1] rfl) (hD.sub [1] (by decide) rfl)) rfl rfl hl.1 rfl (lv_room (Nat.le_of_ble_eq_true rfl)) dX1_init_14 ⟨Nat.le_of_ble_eq_true rfl, Nat.le_of_ble_eq_true rfl⟩) hP hD hS hA [1] [0] rfl rfl (by decide) (by decide) (fun u14 H locs hw_14 hP hD hS => ?_)
  have hP : va_P D vwCl [(h, .inr (1, [.int (gb (False)), .null, .null, .null, .null, .int 0, .null, .null, .int 0])), (w10, eScr u14), (u14, eJ cy 12 (fun _ => 0))] H := hP
  have hD : va_D AA [(h, .inr (1, [.int (gb (False)), .null, .null, .null, .null, .int 0, .null, .null, .int 0])), (w10, eScr u14), (u14, eJ cy 12 (fun _ => 0))] := hD
  refine va_putF (D := D) (ci := 1) (v := .ref w10) (ty := .object "DirtyTiles$Screen") (C := RX1) (T := TX1) (N := 9) hx hb hts iX1_init_X1 tyX1 tyX1_ok nmX1 hown hG.1 hP hD hS 0 rfl rfl 1 (by decide) (hts (.fieldLink RX1 18 "DirtyTiles$Client" "ownScreen" "LDirtyTiles$Screen;") (by decide +kernel)) (fun _ h9 => h9) rfl hin rfl (by decide +kernel) rfl rfl (Nat.le_of_ble_eq_true rfl) dX1_init_17 (fun H locs hP hD hS => ?_)
  have hP : va_P D vwCl [(h, .inr (1, [.int (gb (False)), .ref w10, .null, .null, .null, .int 0, .null, .null, .int 0])), (w10, eScr u14), (u14, eJ cy 12 (fun _ => 0))] H := hP
  have hD : va_D AA [(h, .inr (1, [.int (gb (False)), .ref w10, .null, .null, .null, .int 0, .null, .null, .int 0])), (w10, eScr u14), (u14, eJ cy 12 (fun _ => 0))] := hD
  refine lv_aload_n hx hb dX1_init_20 rfl (lv_at hl 0 rfl) ?_
  refine va_new (ci := 0) (fs := [.null, .int 0]) (C := RX0) (T := TX0) (N := 2) hx hb hts iX1_init_X0 tyX0 tyX0_ok hown (hts (.classLink RX1 22 RX0) (by decide +kernel)) (hts (.instantiable RX0 2) (by decide +kernel)) (hts (.initialized RX0) (by decide +kernel)) hG.1 hP hD hS hA rfl (fun j hj => by rcases (show j = 0 ∨ j = 1 by omega) with rfl | rfl <;> rfl) (Nat.le_of_ble_eq_true rfl) (Nat.le_of_ble_eq_true rfl) dX1_init_21 (fun w21 H hP hD hS => ?_)
  have hP : va_P D vwCl [(h, .inr (1, [.int (gb (False)), .ref w10, .null, .null, .null, .int 0, .null, .null, .int 0])), (w10, eScr u14), (u14, eJ cy 12 (fun _ => 0)), (w21, .inr (0, [.null, .int 0]))] H := hP
  have hD : va_D AA [(h, .inr (1, [.int (gb (False)), .ref w10, .null, .null, .null, .int 0, .null, .null, .int 0])), (w10, eScr u14), (u14, eJ cy 12 (fun _ => 0)), (w21, .inr (0, [.null, .int 0]))] := hD
  refine lv_dup hx hb dX1_init_24 rfl ?_
  refine gc_Cv (wr := [(h, .inr (1, [.int (gb (False)), .ref w10, .null, .null, .null, .int 0, .null, .null, .int 0])), (w10, eScr u14), (u14, eJ cy 12 (fun _ => 0))]) (va_runIN (host := RX3) (As := []) (rest := [.ref w21, .ref h]) ⟨hx, hb, hml, hown, hts⟩ (c_X0_init l D cy H.size w21) ⟨va_cnB 0 hts gX1_init_X0_init_n24 rfl rfl rfl hG.2.2.2.1 (hts (.initialized RX0) (by decide +kernel)) (by decide +kernel) ⟨Nat.le_of_ble_eq_true rfl, Nat.le_of_ble_eq_true rfl⟩, rfl, (hts (.instanceMethod yX0_init) (by decide +kernel))⟩ (gpSI hG (hP.sub [3] rfl) (hD.sub [3] (by decide) rfl)) rfl rfl hl.1 rfl (lv_room (Nat.le_of_ble_eq_true rfl)) dX1_init_25 ⟨Nat.le_of_ble_eq_true rfl, Nat.le_of_ble_eq_true rfl⟩) hP hD hS hA [3] [0, 1, 2] rfl rfl (by decide) (by decide) (fun u25 H locs hw_25 hP hD hS => ?_)
  have hP : va_P D vwCl [(h, .inr (1, [.int (gb (False)), .ref w10, .null, .null, .null, .int 0, .null, .null, .int 0])), (w10, eScr u14), (u14, eJ cy 12 (fun _ => 0)), (w21, eCch u25 (nI 0)), (u25, eJ cy 6 (fun _ => 0))] H := hP
  have hD : va_D AA [(h, .inr (1, [.int (gb (False)), .ref w10, .null, .null, .null, .int 0, .null, .null, .int 0])), (w10, eScr u14), (u14, eJ cy 12 (fun _ => 0)), (w21, eCch u25 (nI 0)), (u25, eJ cy 6 (fun _ => 0))] := hD
  refine va_putF (D := D) (ci := 1) (v := .ref w21) (ty := .object "DirtyTiles$Cache") (C := RX1) (T := TX1) (N := 9) hx hb hts iX1_init_X1 tyX1 tyX1_ok nmX1 hown hG.1 hP hD hS 0 rfl rfl 2 (by decide) (hts (.fieldLink RX1 25 "DirtyTiles$Client" "ownCache" "LDirtyTiles$Cache;") (by decide +kernel)) (fun _ h9 => h9) rfl hin rfl (by decide +kernel) rfl rfl (Nat.le_of_ble_eq_true rfl) dX1_init_28 (fun H locs hP hD hS => ?_)
  have hP : va_P D vwCl [(h, .inr (1, [.int (gb (False)), .ref w10, .ref w21, .null, .null, .int 0, .null, .null, .int 0])), (w10, eScr u14), (u14, eJ cy 12 (fun _ => 0)), (w21, eCch u25 (nI 0)), (u25, eJ cy 6 (fun _ => 0))] H := hP
  have hD : va_D AA [(h, .inr (1, [.int (gb (False)), .ref w10, .ref w21, .null, .null, .int 0, .null, .null, .int 0])), (w10, eScr u14), (u14, eJ cy 12 (fun _ => 0)), (w21, eCch u25 (nI 0)), (u25, eJ cy 6 (fun _ => 0))] := hD
  refine lv_aload_n hx hb dX1_init_31 rfl (lv_at hl 0 rfl) ?_
  refine va_new (ci := 0) (fs := [.null, .int 0]) (C := RX0) (T := TX0) (N := 2) hx hb hts iX1_init_X0 tyX0 tyX0_ok hown (hts (.classLink RX1 22 RX0) (by decide +kernel)) (hts (.instantiable RX0 2) (by decide +kernel)) (hts (.initialized RX0) (by decide +kernel)) hG.1 hP hD hS hA rfl (fun j hj => by rcases (show j = 0 ∨ j = 1 by omega) with rfl | rfl <;> rfl) (Nat.le_of_ble_eq_true rfl) (Nat.le_of_ble_eq_true rfl) dX1_init_32 (fun w32 H hP hD hS => ?_)
  have hP : va_P D vwCl [(h, .inr (1, [.int (gb (False)), .ref w10, .ref w21, .null, .null, .int 0, .null, .null, .int 0])), (w10, eScr u14), (u14, eJ cy 12 (fun _ => 0)), (w21, eCch u25 (nI 0)), (u25, eJ cy 6 (fun _ => 0)), (w32, .inr (0, [.null, .int 0]))] H := hP
  have hD : va_D AA [(h, .inr (1, [.int (gb (False)), .ref w10, .ref w21, .null, .null, .int 0, .null, .null, .int 0])), (w10, eScr u14), (u14, eJ cy 12 (fun _ => 0)), (w21, eCch u25 (nI 0)), (u25, eJ cy 6 (fun _ => 0)), (w32, .inr (0, [.null, .int 0]))] := hD
  refine lv_dup hx hb dX1_init_35 rfl ?_
  refine gc_Cv (wr := [(h, .inr (1, [.int (gb (False)), .ref w10, .ref w21, .null, .null, .int 0, .null, .null, .int 0])), (w10, eScr u14), (u14, eJ cy 12 (fun _ => 0)), (w21, eCch u25 (nI 0)), (u25, eJ cy 6 (fun _ => 0))]) (va_runIN (host := RX3) (As := []) (rest := [.ref w32, .ref h]) ⟨hx, hb, hml, hown, hts⟩ (c_X0_init l D cy H.size w32) ⟨va_cnB 0 hts gX1_init_X0_init_n24 rfl rfl rfl hG.2.2.2.1 (hts (.initialized RX0) (by decide +kernel)) (by decide +kernel) ⟨Nat.le_of_ble_eq_true rfl, Nat.le_of_ble_eq_true rfl⟩, rfl, (hts (.instanceMethod yX0_init) (by decide +kernel))⟩ (gpSI hG (hP.sub [5] rfl) (hD.sub [5] (by decide) rfl)) rfl rfl hl.1 rfl (lv_room (Nat.le_of_ble_eq_true rfl)) dX1_init_36 ⟨Nat.le_of_ble_eq_true rfl, Nat.le_of_ble_eq_true rfl⟩) hP hD hS hA [5] [0, 1, 2, 3, 4] rfl rfl (by decide) (by decide) (fun u36 H locs hw_36 hP hD hS => ?_)
  have hP : va_P D vwCl [(h, .inr (1, [.int (gb (False)), .ref w10, .ref w21, .null, .null, .int 0, .null, .null, .int 0])), (w10, eScr u14), (u14, eJ cy 12 (fun _ => 0)), (w21, eCch u25 (nI 0)), (u25, eJ cy 6 (fun _ => 0)), (w32, eCch u36 (nI 0)), (u36, eJ cy 6 (fun _ => 0))] H := hP
  have hD : va_D AA [(h, .inr (1, [.int (gb (False)), .ref w10, .ref w21, .null, .null, .int 0, .null, .null, .int 0])), (w10, eScr u14), (u14, eJ cy 12 (fun _ => 0)), (w21, eCch u25 (nI 0)), (u25, eJ cy 6 (fun _ => 0)), (w32, eCch u36 (nI 0)), (u36, eJ cy 6 (fun _ => 0))] := hD
  refine va_putF (D := D) (ci := 1) (v := .ref w32) (ty := .object "DirtyTiles$Cache") (C := RX1) (T := TX1) (N := 9) hx hb hts iX1_init_X1 tyX1 tyX1_ok nmX1 hown hG.1 hP hD hS 0 rfl rfl 3 (by decide) (hts (.fieldLink RX1 29 "DirtyTiles$Client" "serverCache" "LDirtyTiles$Cache;") (by decide +kernel)) (fun _ h9 => h9) rfl hin rfl (by decide +kernel) rfl rfl (Nat.le_of_ble_eq_true rfl) dX1_init_39 (fun H locs hP hD hS => ?_)
  have hP : va_P D vwCl [(h, .inr (1, [.int (gb (False)), .ref w10, .ref w21, .ref w32, .null, .int 0, .null, .null, .int 0])), (w10, eScr u14), (u14, eJ cy 12 (fun _ => 0)), (w21, eCch u25 (nI 0)), (u25, eJ cy 6 (fun _ => 0)), (w32, eCch u36 (nI 0)), (u36, eJ cy 6 (fun _ => 0))] H := hP
  have hD : va_D AA [(h, .inr (1, [.int (gb (False)), .ref w10, .ref w21, .ref w32, .null, .int 0, .null, .null, .int 0])), (w10, eScr u14), (u14, eJ cy 12 (fun _ => 0)), (w21, eCch u25 (nI 0)), (u25, eJ cy 6 (fun _ => 0)), (w32, eCch u36 (nI 0)), (u36, eJ cy 6 (fun _ => 0))] := hD
  refine lv_aload_n hx hb dX1_init_42 rfl (lv_at hl 0 rfl) ?_
  refine lv_bipush (v := nI 12) hx hb dX1_init_43 (by decide) ?_
  refine g_newI hx hb (hts (.arrayClass .int) (by decide +kernel)) hG hP hD hS hA 0 rfl (n := 12) (by decide) (by decide) (Nat.le_of_ble_eq_true rfl) (Nat.le_of_ble_eq_true rfl) dX1_init_45 (fun w45 H hP hD hS => ?_)
  have hP : va_P D vwCl [(h, .inr (1, [.int (gb (False)), .ref w10, .ref w21, .ref w32, .null, .int 0, .null, .null, .int 0])), (w10, eScr u14), (u14, eJ cy 12 (fun _ => 0)), (w21, eCch u25 (nI 0)), (u25, eJ cy 6 (fun _ => 0)), (w32, eCch u36 (nI 0)), (u36, eJ cy 6 (fun _ => 0)), (w45, eI cy 12 (fun _ => 0))] H := hP
  have hD : va_D AA [(h, .inr (1, [.int (gb (False)), .ref w10, .ref w21, .ref w32, .null, .int 0, .null, .null, .int 0])), (w10, eScr u14), (u14, eJ cy 12 (fun _ => 0)), (w21, eCch u25 (nI 0)), (u25, eJ cy 6 (fun _ => 0)), (w32, eCch u36 (nI 0)), (u36, eJ cy 6 (fun _ => 0)), (w45, eI cy 12 (fun _ => 0))] := hD
  refine va_putF (D := D) (ci := 1) (v := .ref w45) (ty := .array .int) (C := RX1) (T := TX1) (N := 9) hx hb hts iX1_init_X1 tyX1 tyX1_ok nmX1 hown hG.1 hP hD hS 0 rfl rfl 4 (by decide) (hts (.fieldLink RX1 32 "DirtyTiles$Client" "dirtyTiles" "[I") (by decide +kernel)) (fun _ h9 => h9) rfl hin rfl (by decide +kernel) rfl rfl (Nat.le_of_ble_eq_true rfl) dX1_init_47 (fun H locs hP hD hS => ?_)
  have hP : va_P D vwCl [(h, .inr (1, [.int (gb (False)), .ref w10, .ref w21, .ref w32, .ref w45, .int 0, .null, .null, .int 0])), (w10, eScr u14), (u14, eJ cy 12 (fun _ => 0)), (w21, eCch u25 (nI 0)), (u25, eJ cy 6 (fun _ => 0)), (w32, eCch u36 (nI 0)), (u36, eJ cy 6 (fun _ => 0)), (w45, eI cy 12 (fun _ => 0))] H := hP
  have hD : va_D AA [(h, .inr (1, [.int (gb (False)), .ref w10, .ref w21, .ref w32, .ref w45, .int 0, .null, .null, .int 0])), (w10, eScr u14), (u14, eJ cy 12 (fun _ => 0)), (w21, eCch u25 (nI 0)), (u25, eJ cy 6 (fun _ => 0)), (w32, eCch u36 (nI 0)), (u36, eJ cy 6 (fun _ => 0)), (w45, eI cy 12 (fun _ => 0))] := hD
  refine lv_aload_n hx hb dX1_init_50 rfl (lv_at hl 0 rfl) ?_
  refine lv_iconst (v := nI 0) hx hb dX1_init_51 (by decide) ?_
  refine va_put (D := D) (ci := 1) (v := .int (nI 0)) (ty := .int) (C := RX1) (T := TX1) (N := 9) hx hb hts iX1_init_X1 tyX1 tyX1_ok nmX1 hown hG.1 hP hD hS 0 rfl rfl 5 (by decide) (hts (.fieldLink RX1 36 "DirtyTiles$Client" "dirtyCount" "I") (by decide +kernel)) (fun _ h9 => h9) rfl (by decide +kernel) rfl rfl (Nat.le_of_ble_eq_true rfl) dX1_init_52 (fun H locs hP hD hS => ?_)
  have hP : va_P D vwCl [(h, .inr (1, [.int (gb (False)), .ref w10, .ref w21, .ref w32, .ref w45, .int (nI 0), .null, .null, .int 0])), (w10, eScr u14), (u14, eJ cy 12 (fun _ => 0)), (w21, eCch u25 (nI 0)), (u25, eJ cy 6 (fun _ => 0)), (w32, eCch u36 (nI 0)), (u36, eJ cy 6 (fun _ => 0)), (w45, eI cy 12 (fun _ => 0))] H := hP
  have hD : va_D AA [(h, .inr (1, [.int (gb (False)), .ref w10, .ref w21, .ref w32, .ref w45, .int (nI 0), .null, .null, .int 0])), (w10, eScr u14), (u14, eJ cy 12 (fun _ => 0)), (w21, eCch u25 (nI 0)), (u25, eJ cy 6 (fun _ => 0)), (w32, eCch u36 (nI 0)), (u36, eJ cy 6 (fun _ => 0)), (w45, eI cy 12 (fun _ => 0))] := hD
  refine lv_aload_n hx hb dX1_init_55 rfl (lv_at hl 0 rfl) ?_
  refine lv_bipush (v := nI 12) hx hb dX1_init_56 (by decide) ?_
  refine g_newI hx hb (hts (.arrayClass .int) (by decide +kernel)) hG hP hD hS hA 0 rfl (n := 12) (by decide) (by decide) (Nat.le_of_ble_eq_true rfl) (Nat.le_of_ble_eq_true rfl) dX1_init_58 (fun w58 H hP hD hS => ?_)
  have hP : va_P D vwCl [(h, .inr (1, [.int (gb (False)), .ref w10, .ref w21, .ref w32, .ref w45, .int (nI 0), .null, .null, .int 0])), (w10, eScr u14), (u14, eJ cy 12 (fun _ => 0)), (w21, eCch u25 (nI 0)), (u25, eJ cy 6 (fun _ => 0)), (w32, eCch u36 (nI 0)), (u36, eJ cy 6 (fun _ => 0)), (w45, eI cy 12 (fun _ => 0)), (w58, eI cy 12 (fun _ => 0))] H := hP
  have hD : va_D AA [(h, .inr (1, [.int (gb (False)), .ref w10, .ref w21, .ref w32, .ref w45, .int (nI 0), .null, .null, .int 0])), (w10, eScr u14), (u14, eJ cy 12 (fun _ => 0)), (w21, eCch u25 (nI 0)), (u25, eJ cy 6 (fun _ => 0)), (w32, eCch u36 (nI 0)), (u36, eJ cy 6 (fun _ => 0)), (w45, eI cy 12 (fun _ => 0)), (w58, eI cy 12 (fun _ => 0))] := hD
  refine va_putF (D := D) (ci := 1) (v := .ref w58) (ty := .array .int) (C := RX1) (T := TX1) (N := 9) hx hb hts iX1_init_X1 tyX1 tyX1_ok nmX1 hown hG.1 hP hD hS 0 rfl rfl 6 (by decide) (hts (.fieldLink RX1 40 "DirtyTiles$Client" "messageTiles" "[I") (by decide +kernel)) (fun _ h9 => h9) rfl hin rfl (by decide +kernel) rfl rfl (Nat.le_of_ble_eq_true rfl) dX1_init_60 (fun H locs hP hD hS => ?_)
  have hP : va_P D vwCl [(h, .inr (1, [.int (gb (False)), .ref w10, .ref w21, .ref w32, .ref w45, .int (nI 0), .ref w58, .null, .int 0])), (w10, eScr u14), (u14, eJ cy 12 (fun _ => 0)), (w21, eCch u25 (nI 0)), (u25, eJ cy 6 (fun _ => 0)), (w32, eCch u36 (nI 0)), (u36, eJ cy 6 (fun _ => 0)), (w45, eI cy 12 (fun _ => 0)), (w58, eI cy 12 (fun _ => 0))] H := hP
  have hD : va_D AA [(h, .inr (1, [.int (gb (False)), .ref w10, .ref w21, .ref w32, .ref w45, .int (nI 0), .ref w58, .null, .int 0])), (w10, eScr u14), (u14, eJ cy 12 (fun _ => 0)), (w21, eCch u25 (nI 0)), (u25, eJ cy 6 (fun _ => 0)), (w32, eCch u36 (nI 0)), (u36, eJ cy 6 (fun _ => 0)), (w45, eI cy 12 (fun _ => 0)), (w58, eI cy 12 (fun _ => 0))] := hD
  refine lv_aload_n hx hb dX1_init_63 rfl (lv_at hl 0 rfl) ?_
  refine lv_bipush (v := nI 12) hx hb dX1_init_64 (by decide) ?_
  refine g_newJ hx hb (hts (.arrayClass .long) (by decide +kernel)) hG hP hD hS hA 1 rfl (n := 12) (by decide) (by decide) (Nat.le_of_ble_eq_true rfl) (Nat.le_of_ble_eq_true rfl) dX1_init_66 (fun w66 H hP hD hS => ?_)
  have hP : va_P D vwCl [(h, .inr (1, [.int (gb (False)), .ref w10, .ref w21, .ref w32, .ref w45, .int (nI 0), .ref w58, .null, .int 0])), (w10, eScr u14), (u14, eJ cy 12 (fun _ => 0)), (w21, eCch u25 (nI 0)), (u25, eJ cy 6 (fun _ => 0)), (w32, eCch u36 (nI 0)), (u36, eJ cy 6 (fun _ => 0)), (w45, eI cy 12 (fun _ => 0)), (w58, eI cy 12 (fun _ => 0)), (w66, eJ cy 12 (fun _ => 0))] H := hP
  have hD : va_D AA [(h, .inr (1, [.int (gb (False)), .ref w10, .ref w21, .ref w32, .ref w45, .int (nI 0), .ref w58, .null, .int 0])), (w10, eScr u14), (u14, eJ cy 12 (fun _ => 0)), (w21, eCch u25 (nI 0)), (u25, eJ cy 6 (fun _ => 0)), (w32, eCch u36 (nI 0)), (u36, eJ cy 6 (fun _ => 0)), (w45, eI cy 12 (fun _ => 0)), (w58, eI cy 12 (fun _ => 0)), (w66, eJ cy 12 (fun _ => 0))] := hD
  refine va_putF (D := D) (ci := 1) (v := .ref w66) (ty := .array .long) (C := RX1) (T := TX1) (N := 9) hx hb hts iX1_init_X1 tyX1 tyX1_ok nmX1 hown hG.1 hP hD hS 0 rfl rfl 7 (by decide) (hts (.fieldLink RX1 43 "DirtyTiles$Client" "messageCells" "[J") (by decide +kernel)) (fun _ h9 => h9) rfl hin rfl (by decide +kernel) rfl rfl (Nat.le_of_ble_eq_true rfl) dX1_init_68 (fun H locs hP hD hS => ?_)
  have hP : va_P D vwCl [(h, .inr (1, [.int (gb (False)), .ref w10, .ref w21, .ref w32, .ref w45, .int (nI 0), .ref w58, .ref w66, .int 0])), (w10, eScr u14), (u14, eJ cy 12 (fun _ => 0)), (w21, eCch u25 (nI 0)), (u25, eJ cy 6 (fun _ => 0)), (w32, eCch u36 (nI 0)), (u36, eJ cy 6 (fun _ => 0)), (w45, eI cy 12 (fun _ => 0)), (w58, eI cy 12 (fun _ => 0)), (w66, eJ cy 12 (fun _ => 0))] H := hP
  have hD : va_D AA [(h, .inr (1, [.int (gb (False)), .ref w10, .ref w21, .ref w32, .ref w45, .int (nI 0), .ref w58, .ref w66, .int 0])), (w10, eScr u14), (u14, eJ cy 12 (fun _ => 0)), (w21, eCch u25 (nI 0)), (u25, eJ cy 6 (fun _ => 0)), (w32, eCch u36 (nI 0)), (u36, eJ cy 6 (fun _ => 0)), (w45, eI cy 12 (fun _ => 0)), (w58, eI cy 12 (fun _ => 0)), (w66, eJ cy 12 (fun _ => 0))] := hD
  refine lv_aload_n hx hb dX1_init_71 rfl (lv_at hl 0 rfl) ?_
  refine lv_iconst (v := nI 0) hx hb dX1_init_72 (by decide) ?_
  refine va_put (D := D) (ci := 1) (v := .int (nI 0)) (ty := .int) (C := RX1) (T := TX1) (N := 9) hx hb hts iX1_init_X1 tyX1 tyX1_ok nmX1 hown hG.1 hP hD hS 0 rfl rfl 8 (by decide) (hts (.fieldLink RX1 47 "DirtyTiles$Client" "messageCount" "I") (by decide +kernel)) (fun _ h9 => h9) rfl (by decide +kernel) rfl rfl (Nat.le_of_ble_eq_true rfl) dX1_init_73 (fun H locs hP hD hS => ?_)
  have hP : va_P D vwCl [(h, .inr (1, [.int (gb (False)), .ref w10, .ref w21, .ref w32, .ref w45, .int (nI 0), .ref w58, .ref w66, .int (nI 0)])), (w10, eScr u14), (u14, eJ cy 12 (fun _ => 0)), (w21, eCch u25 (nI 0)), (u25, eJ cy 6 (fun _ => 0)), (w32, eCch u36 (nI 0)), (u36, eJ cy 6 (fun _ => 0)), (w45, eI cy 12 (fun _ => 0)), (w58, eI cy 12 (fun _ => 0)), (w66, eJ cy 12 (fun _ => 0))] H := hP
  have hD : va_D AA [(h, .inr (1, [.int (gb (False)), .ref w10, .ref w21, .ref w32, .ref w45, .int (nI 0), .ref w58, .ref w66, .int (nI 0)])), (w10, eScr u14), (u14, eJ cy 12 (fun _ => 0)), (w21, eCch u25 (nI 0)), (u25, eJ cy 6 (fun _ => 0)), (w32, eCch u36 (nI 0)), (u36, eJ cy 6 (fun _ => 0)), (w45, eI cy 12 (fun _ => 0)), (w58, eI cy 12 (fun _ => 0)), (w66, eJ cy 12 (fun _ => 0))] := hD
  exact hret _ _ _ _ _ _ (fun k => [h, w10, u14, w21, u25, w32, u36, w45, w58, w66].getD k 0) dX1_init_76 (trivial) (hP.sub [0, 1, 2, 3, 4, 5, 6, 7, 8, 9] rfl) (hD.sub [0, 1, 2, 3, 4, 5, 6, 7, 8, 9] (by decide) rfl) hS (Nat.le_of_ble_eq_true rfl) (Nat.le_of_ble_eq_true rfl)
