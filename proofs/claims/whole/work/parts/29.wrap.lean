/-! the calls that catch -/
/-! the law's sixteen calls that catch: L_* answers 0 and lays what the class answers into a cell, or answers 1, 2, 3 for what it threw -/
def gN (U : State) : Prop := va_Nc xIS xIA U ∧ va_Nc xIO xIA U ∧ va_Nc xIO xIS U
theorem gN.alike {s U : State} (h : gN s) (hA : s.vm.Alike U.vm) : gN U := ⟨h.1.moved hA, h.2.1.moved hA, h.2.2.moved hA⟩
def gXw (D : va_G) (tys : List (ClassId × FieldType)) (sa : Nat → Nat) (wd : va_W) (sz : Nat) : State → Prop := fun U => gX D tys sa wd sz U ∧ gN U
theorem gXw_blind {av : List Value} {D : va_G} {tys : List (ClassId × FieldType)} {sa : Nat → Nat} {wd : va_W} {sz : Nat} : FrameBlind (va_Pc av (gXw D tys sa wd sz)) := fun a U g mk q => ⟨q.1, (gX_blind (av := av) a U g mk ⟨q.1, q.2.1⟩).2, gN.alike (U := U.calling g mk a) q.2.2 (Vm.Alike.refl U.vm)⟩
theorem gpSXw {s : State} {H : Heap} {As : List Value} {wc : va_W} {D : va_G} {tys : List (ClassId × FieldType)} {sa : Nat → Nat} (hG : gG D tys s) (hE : gE sa (fun q => H.size ≤ q) s H) (hN : gN s) (hP : va_P D vwCl wc H) : PreS s H (va_Pc As (gXw D tys sa wc H.size)) As :=
  ⟨gXw_blind, fun U hU hW => ⟨rfl, ⟨by rw [hU], by rw [hU]; exact hP, hG.warm hW, by rw [hU]; exact hE.warm hW⟩, hN.alike hW.alike⟩⟩
theorem gpVY {s : State} {H : Heap} {b : Nat} {As : List Value} {wc wr : va_W} {D : va_G} {tys : List (ClassId × FieldType)} {sa : Nat → Nat} {ci q0 : Nat} {fs : List Value} {q : vw_C} (hG : gG D tys s) (hE : gE sa (fun q => H.size ≤ q) s H) (hP : va_P D vwCl wc H) (hR : va_P D vwCl wr H) (hc : vwCl[ci]? = some q) (he : wr[q0]? = some (b, .inr (ci, fs))) : PreV s H q.1 b (va_Pc (.ref b :: As) (gX D tys sa wc H.size)) As :=
  ⟨gX_blind, va_recv hG.1 hR hc he, fun U hU hW => ⟨rfl, by rw [hU], by rw [hU]; exact hP, hG.warm hW, by rw [hU]; exact hE.warm hW⟩⟩
theorem gcast {A : Array Value} {s : State} {C T : String} (h : va_Nw (.castable C T) s) : (Cond.castable C T).before A s = true := va_tabs rfl rfl h
section GH
variable {l : Launch} {y : MethodName} {ws ws' : List Cond} {rm : Room} {cc : ByteArray} {maxL : Nat} {av : List Value} {D : va_G} {tys : List (ClassId × FieldType)} {wd : va_W} {sa : Nat → Nat} {E : String} {sz : Nat} {hh : List (Nat × Nat × Nat × Nat)}
theorem Met_ofWH {Pc : Array Value → State → Prop} {Qc : Array Value → State → Outcome → State → Prop} {mc ms : Nat} {free : Addr → Prop} {ret : Option FieldType} (hy : plainName y.cls = true) (hw : ws = Cond.codeWith y cc maxL ret hh :: ws')
    (body : ∀ p e s m args below meth c s₁, BodyLoose p l y (headSpec ws rm) cc maxL ret e s m args below meth c s₁ → c.maxLocals = maxL → Pc args s →
      W p l e (headSpec ws rm).room s m args below meth c s.heap [] 0 0 (MQ below Qc args s mc ms free) (entryFrame m args maxL)) : Met l y ws rm Pc Qc mc ms free := by
  refine MetFree.of_bodyS (code := cc) (maxLocals := maxL) (ret := ret) hy ?_ ?_
  · intro args s m h hn
    obtain ⟨m9, meth, c, hn9, h1, h2, h3, h4, -, h5, h6, -⟩ := Cond.codeWith_spec (atoms_spec (ws := ws) h _ (by rw [hw]; exact List.mem_cons_self))
    cases hn.symm.trans hn9
    exact ⟨meth, c, h1, h2, h3, h4, h5, h6⟩
  · intro p e s m args below meth c s₁ B hml hP _
    have hh0 : s₁.heap = s.heap := by rw [B.state]; rfl
    obtain ⟨t, a1, o, b1, b2, b3⟩ := body p e s m args below meth c s₁ B hml hP s₁ hh0 (Stand.of_body B)
    exact ⟨t, o, a1, b1, b2, b3⟩
theorem gH_i {S : Type} {post : Int32 → S → Prop} {wo : S → va_W} (hy : plainName y.cls = true) (hw : ws = Cond.codeWith y cc maxL (some .int) hh :: ws') (hlen : (lg_sl av).length ≤ maxL)
    (body : ∀ (p : Program) (e : Env) (s : State) (m : MethodId) (below : List Frame) (meth : Method) (c : Code) (Q : State → Prop) (A : Nat → Prop) (ls : Array Slot), gFx y.cls cc maxL ws p s m av.toArray meth c → va_P D vwCl wd s.heap → gG D tys s → va_D A wd → (∀ q : Nat, s.heap.size ≤ q → A q) →
      (∀ (H : Heap) (locs : List Loc) (pc : Nat) (ls : Array Slot) (v : Int32) (u : S), decode cc pc = .ok (.ireturn, 1) → post v u → va_P D vwCl (wo u) H → va_D A (wo u) → va_S A s.heap H locs → W p l e rm s m av.toArray below meth c H locs 0 0 Q (F0 m pc ls [.int v])) →
      lv_has ls maxL (lv_args 0 av) → W p l e rm s m av.toArray below meth c s.heap [] 0 0 Q (F0 m 0 ls [])) : Met l y ws rm (va_Pc av (gI D tys wd sz)) (va_Qi post (gO D wo (va_A wd sz)) (va_A wd sz)) 0 0 (va_A wd sz) := by
  refine Met_ofWH (cc := cc) (maxL := maxL) (ret := some .int) (hh := hh) hy hw ?_
  intro p e s m args below meth c s₁ B hml hv
  obtain ⟨rfl, hsz, hP, hG, hD⟩ := hv
  subst hsz
  rw [lg_entry_eq]
  exact body p e s m below meth c _ (va_A wd s.heap.size) _ ⟨B.exec, B.bytes, hml, findClass_of_methodNamed B.named, atoms_spec (ws := ws) B.pre, B.notSynchronized⟩ hP hG hD.self (fun q h => Or.inr h)
    (fun H locs pc ls v u hd hp hPo hDo hS => W.zret B.exec B.bytes B.returns rfl (fun t ht hW => ⟨⟨v, u, rfl, hp, by rw [ht]; exact hPo, hDo⟩, hS.F ht⟩) hS.2.2 hd B.notSynchronized) (lv_entry av hlen)
theorem gH_x {kx : Int32} (hy : plainName y.cls = true) (hw : ws = Cond.codeWith y cc maxL (some .int) hh :: ws') (hlen : (lg_sl av).length ≤ maxL)
    (body : ∀ (p : Program) (e : Env) (s : State) (m : MethodId) (below : List Frame) (meth : Method) (c : Code) (Q : State → Prop) (ls : Array Slot), gFx y.cls cc maxL ws p s m av.toArray meth c → va_P D vwCl wd s.heap → gG D tys s → gE sa (fun q => s.heap.size ≤ q) s s.heap → gN s → c.exceptionTable.toList = tableOf hh →
      (∀ (H : Heap) (locs : List Loc) (pc : Nat) (ls : Array Slot), decode cc pc = .ok (.ireturn, 1) → va_S (fun q => s.heap.size ≤ q) s.heap H locs → W p l e rm s m av.toArray below meth c H locs 1 6 Q (F0 m pc ls [.int kx])) →
      lv_has ls maxL (lv_args 0 av) → W p l e rm s m av.toArray below meth c s.heap [] 0 0 Q (F0 m 0 ls [])) : Met l y ws rm (va_Pc av (gXw D tys sa wd sz)) (va_Qi (fun (r9 : Int32) (_ : Unit) => r9 = kx) (fun _ _ => True) (fun q => sz ≤ q)) 1 6 (fun q => sz ≤ q) := by
  refine Met_ofWH (cc := cc) (maxL := maxL) (ret := some .int) (hh := hh) hy hw ?_
  intro p e s m args below meth c s₁ B hml hv
  obtain ⟨rfl, ⟨hsz, hP, hG, hE⟩, hN⟩ := hv
  subst hsz
  rw [lg_entry_eq]
  exact body p e s m below meth c _ _ ⟨B.exec, B.bytes, hml, findClass_of_methodNamed B.named, atoms_spec (ws := ws) B.pre, B.notSynchronized⟩ hP hG hE hN
    (vx_table (x := y) B (atoms_spec (ws := ws) B.pre _ (by rw [hw]; exact List.mem_cons_self)))
    (fun H locs pc ls hd hS => W.zret B.exec B.bytes B.returns rfl (fun t ht hW => ⟨⟨kx, (), rfl, rfl, trivial⟩, hS.F ht⟩) hS.2.2 hd B.notSynchronized) (lv_entry av hlen)
theorem gx_catch {own name : String} {p : Program} {e : Env} {R : Room} {s : State} {m : MethodId} {below : List Frame} {meth : Method} {c : Code} {args : Array Value} {pc : Nat} {ls : Array Slot} {rest st0 : List Value} {Qa : State → Outcome → State → Prop} {Q : State → Prop} (hQ : ∀ a b c, ¬ Qa a b c)
    (hr : vx_Run p l e R s m args below meth c s.heap [] 0 0 1 6 (F0 m pc ls st0) rest Qa (gXC E s.heap.size) (fun q => s.heap.size ≤ q))
    (hown : s.vm.findClass own = some m.cls) (pre : List ExceptionTableEntry) (x : ExceptionTableEntry) (suf : List ExceptionTableEntry) (hsplit : c.exceptionTable.toList = pre ++ x :: suf)
    (hpass : ∀ z ∈ pre, covers z pc = false ∨ (z.catchType ≠ 0 ∧ ∃ nm : String, (Cond.classLink own z.catchType nm).before args s = true ∧ va_Nc E nm s)) (hx : covers x pc = true) (h0 : x.catchType ≠ 0)
    (hlink : (Cond.classLink own x.catchType name).before args s = true) (hcast : (Cond.castable E name).before args s = true)
    (kk : ∀ (H1 : Heap) (locs1 : List Loc) (q9 : Nat), va_S (fun q => s.heap.size ≤ q) s.heap H1 locs1 → W p l e R s m args below meth c H1 locs1 1 6 Q (F0 m x.handlerPc ls [.ref q9])) : W p l e R s m args below meth c s.heap [] 0 0 Q (F0 m pc ls st0) := by
  intro T hT X
  rcases hr T hT X with ⟨v, st₀, t, T', L, h0', X', hL, e1, e2, hq, st⟩ | ⟨q, st₀, t, T', L, E', ce, h0', X', hL, e1, e2, ⟨hE, hF⟩, hce, hcv, hcl, st⟩
  · exact absurd hq (hQ _ _ _)
  · subst hE
    obtain ⟨hz, hk⟩ := hF
    rw [h0'] at hz hk
    obtain ⟨t2, a1, b1⟩ := vx_catch (pc := pc) (ls := ls) (rest := rest) (E := E') (ce := ce) (q := q) (H := T'.heap) (locs := [] ++ L) (cells := 0 + 1) (slots := 0 + 6) (Q := Q) hown pre x suf hsplit hpass hx h0 hlink hcast (by rw [e1]; exact hce) hcv hcl
      (kk T'.heap ([] ++ L) q ⟨by rw [e1]; exact hz, fun z h1 h2 => by rw [e1]; exact hk z h1 h2, fun z hz9 => hL z (by rw [List.nil_append] at hz9; exact hz9)⟩) T' rfl X'
    exact ⟨t2, st.trans a1, b1⟩
end GH
noncomputable def gL (P : Prop) : Int64 := @ite _ P (Classical.propDecidable P) 1 0
theorem gL_t {P : Prop} (h : P) : gL P = 1 := by unfold gL; exact if_pos h
theorem gL_f {P : Prop} (h : ¬ P) : gL P = 0 := by unfold gL; exact if_neg h
set_option maxHeartbeats 4000000 in
set_option maxRecDepth 100000 in
theorem c_L_fill (l : Launch) (D : va_G) (cy : Nat → ClassId) (sz : Nat) (fs fb : Nat → Int64) (a q r9 : Nat → Nat) (uw : Int32) (g : Nat → Option Nat) (J J9 : Prop) (k k9 : Int32) (L K : List Nat) (f h : Nat → Int32) (c r w m v : Nat) (o9 : Nat) (fx9 : Nat → Int64) (hg0 : g 0 = some (q 0)) (hg1 : g 1 = some (r9 0)) (hL : hN L f) (ho : okD L) (hK : hN K h) (hk9 : okD K) (hc : c < 16) (hr : r < 12) (hw : 1 ≤ w ∧ w + c ≤ 16) (hh : 1 ≤ m ∧ m + r ≤ 12) (hv : v < 16) : Met l yL_fill wsL_fill ({ frames := 4, cells := 0, slots := 0, locals := 97 } : Room) (va_Pc [.ref (a 0), .int (nI c), .int (nI r), .int (nI w), .int (nI m), .int (nI v), .ref o9] (gI D (gT cy) [(a 0, eTop (a 1) (a 3) (a 5) (a 6) uw), (a 1, eScr (a 2)), (a 2, eJ cy 12 fs), (a 3, eScr (a 4)), (a 4, eJ cy 12 fb), (a 5, eQ cy 2 g), (q 0, eCli (gb (J)) (q 1) (q 3) (q 5) (q 7) (nI L.length) (q 8) (q 9) k), (q 7, eI cy 12 f), (r9 0, eCli (gb (J9)) (r9 1) (r9 3) (r9 5) (r9 7) (nI K.length) (r9 8) (r9 9) k9), (r9 7, eI cy 12 h), (o9, eJ cy 1 fx9)] sz)) (va_Qi (fun (r9 : Int32) (u : (Nat → Int64) × (Nat → Int64) × (List Nat) × (List Nat) × (Nat → Int32) × (Nat → Int32)) => r9 = nI 0 ∧ ((gD u.1 (finF fs c r w m v) ∧ (∀ k, k < 12 → u.2.1 k = fs k) ∧ u.2.2.1 = stlF J u.2.1 u.1 L 12 ∧ u.2.2.2.1 = stlF J9 u.2.1 u.1 K 12 ∧ hN u.2.2.1 u.2.2.2.2.1 ∧ hN u.2.2.2.1 u.2.2.2.2.2))) (gO D (fun u : (Nat → Int64) × (Nat → Int64) × (List Nat) × (List Nat) × (Nat → Int32) × (Nat → Int32) => [(a 0, eTop (a 1) (a 3) (a 5) (a 6) uw), (a 1, eScr (a 2)), (a 2, eJ cy 12 u.1), (a 3, eScr (a 4)), (a 4, eJ cy 12 u.2.1), (a 5, eQ cy 2 g), (q 0, eCli (gb (J)) (q 1) (q 3) (q 5) (q 7) (nI u.2.2.1.length) (q 8) (q 9) k), (q 7, eI cy 12 u.2.2.2.2.1), (r9 0, eCli (gb (J9)) (r9 1) (r9 3) (r9 5) (r9 7) (nI u.2.2.2.1.length) (r9 8) (r9 9) k9), (r9 7, eI cy 12 u.2.2.2.2.2), (o9, eJ cy 1 (vp_updL fx9 0 ((nI (sumD u.2.1 u.1 12)).toInt64)))]) (va_A [(a 0, eTop (a 1) (a 3) (a 5) (a 6) uw), (a 1, eScr (a 2)), (a 2, eJ cy 12 fs), (a 3, eScr (a 4)), (a 4, eJ cy 12 fb), (a 5, eQ cy 2 g), (q 0, eCli (gb (J)) (q 1) (q 3) (q 5) (q 7) (nI L.length) (q 8) (q 9) k), (q 7, eI cy 12 f), (r9 0, eCli (gb (J9)) (r9 1) (r9 3) (r9 5) (r9 7) (nI K.length) (r9 8) (r9 9) k9), (r9 7, eI cy 12 h), (o9, eJ cy 1 fx9)] sz)) (va_A [(a 0, eTop (a 1) (a 3) (a 5) (a 6) uw), (a 1, eScr (a 2)), (a 2, eJ cy 12 fs), (a 3, eScr (a 4)), (a 4, eJ cy 12 fb), (a 5, eQ cy 2 g), (q 0, eCli (gb (J)) (q 1) (q 3) (q 5) (q 7) (nI L.length) (q 8) (q 9) k), (q 7, eI cy 12 f), (r9 0, eCli (gb (J9)) (r9 1) (r9 3) (r9 5) (r9 7) (nI K.length) (r9 8) (r9 9) k9), (r9 7, eI cy 12 h), (o9, eJ cy 1 fx9)] sz)) 0 0 (va_A [(a 0, eTop (a 1) (a 3) (a 5) (a 6) uw), (a 1, eScr (a 2)), (a 2, eJ cy 12 fs), (a 3, eScr (a 4)), (a 4, eJ cy 12 fb), (a 5, eQ cy 2 g), (q 0, eCli (gb (J)) (q 1) (q 3) (q 5) (q 7) (nI L.length) (q 8) (q 9) k), (q 7, eI cy 12 f), (r9 0, eCli (gb (J9)) (r9 1) (r9 3) (r9 5) (r9 7) (nI K.length) (r9 8) (r9 9) k9), (r9 7, eI cy 12 h), (o9, eJ cy 1 fx9)] sz) := by
  refine gH_i (cc := cL_fill) (maxL := 8) (hh := [(0, 16, 19, 13)]) (by decide) rfl (Nat.le_of_ble_eq_true rfl) ?_
  intro pp ee ss mm bw mt cd QQ AA ls hfx hP hG hD hA hret hl
  have hS : va_S AA ss.heap ss.heap [] := va_S.rf
  obtain ⟨H, eH⟩ : ∃ H, H = ss.heap := ⟨_, rfl⟩
  obtain ⟨locs, eL⟩ : ∃ L : List Loc, L = [] := ⟨_, rfl⟩
  have hP : va_P D vwCl [(a 0, eTop (a 1) (a 3) (a 5) (a 6) uw), (a 1, eScr (a 2)), (a 2, eJ cy 12 fs), (a 3, eScr (a 4)), (a 4, eJ cy 12 fb), (a 5, eQ cy 2 g), (q 0, eCli (gb (J)) (q 1) (q 3) (q 5) (q 7) (nI L.length) (q 8) (q 9) k), (q 7, eI cy 12 f), (r9 0, eCli (gb (J9)) (r9 1) (r9 3) (r9 5) (r9 7) (nI K.length) (r9 8) (r9 9) k9), (r9 7, eI cy 12 h), (o9, eJ cy 1 fx9)] H := by rw [eH]; exact hP
  have hS : va_S AA ss.heap H locs := by rw [eH, eL]; exact hS
  have goal : ∀ X Y, X = H → Y = locs → W pp l ee ({ frames := 4, cells := 0, slots := 0, locals := 97 } : Room) ss mm ([.ref (a 0), .int (nI c), .int (nI r), .int (nI w), .int (nI m), .int (nI v), .ref o9] : List Value).toArray bw mt cd X Y 0 0 QQ (F0 mm 0 ls []) → W pp l ee ({ frames := 4, cells := 0, slots := 0, locals := 97 } : Room) ss mm ([.ref (a 0), .int (nI c), .int (nI r), .int (nI w), .int (nI m), .int (nI v), .ref o9] : List Value).toArray bw mt cd ss.heap [] 0 0 QQ (F0 mm 0 ls []) := fun X Y hX hY h => by rw [hX, hY, eH, eL] at h; exact h
  refine goal H locs rfl rfl ?_
  clear goal eH eL
  obtain ⟨hx, hb, hml, hown, hts, hlocks⟩ := hfx
  have hown : ss.vm.findClass RL = some mm.cls := hown
  have hl : lv_has ls 8 [(0, .ref (a 0)), (1, .int (nI c)), (2, .int (nI r)), (3, .int (nI w)), (4, .int (nI m)), (5, .int (nI v)), (6, .ref o9)] := hl
  refine lv_aload hx hb dL_fill_0 (lv_at hl 6 rfl) ?_
  refine lv_iconst (v := nI 0) hx hb dL_fill_2 (by decide) ?_
  refine lv_aload_n hx hb dL_fill_3 rfl (lv_at hl 0 rfl) ?_
  refine lv_iload_n hx hb dL_fill_4 rfl (lv_at hl 1 rfl) ?_
  refine lv_iload_n hx hb dL_fill_5 rfl (lv_at hl 2 rfl) ?_
  refine lv_iload_n hx hb dL_fill_6 rfl (lv_at hl 3 rfl) ?_
  refine lv_iload hx hb dL_fill_7 (lv_at hl 4 rfl) ?_
  refine lv_iload hx hb dL_fill_9 (lv_at hl 5 rfl) ?_
  refine gc_Wi (wn := fun u => [(a 0, eTop (a 1) (a 3) (a 5) (a 6) uw), (a 1, eScr (a 2)), (a 2, eJ cy 12 u.1), (a 3, eScr (a 4)), (a 4, eJ cy 12 u.2.1), (a 5, eQ cy 2 g), (q 0, eCli (gb (J)) (q 1) (q 3) (q 5) (q 7) (nI u.2.2.1.length) (q 8) (q 9) k), (q 7, eI cy 12 u.2.2.2.2.1), (r9 0, eCli (gb (J9)) (r9 1) (r9 3) (r9 5) (r9 7) (nI u.2.2.2.1.length) (r9 8) (r9 9) k9), (r9 7, eI cy 12 u.2.2.2.2.2), (o9, eJ cy 1 fx9)]) (wr := [(o9, eJ cy 1 fx9)]) (va_runV (As := [.int (nI c), .int (nI r), .int (nI w), .int (nI m), .int (nI v)]) (rest := [.int (nI 0), .ref o9]) ⟨hx, hb, hml, hown, hts⟩ (c_X3_fill l D cy H.size fs fb a q r9 uw g J J9 k k9 L K f h c r w m v hg0 hg1 hL ho hK hk9 hc hr hw hh hv) (cwV 5 hts gL_fill_X3_fill rfl rfl rfl (by decide +kernel) ⟨Nat.le_of_ble_eq_true rfl, Nat.le_of_ble_eq_true rfl⟩) (gpVI (ci := 3) (q0 := 0) hG (hP.sub [0, 1, 2, 3, 4, 5, 6, 7, 8, 9] rfl) (hD.sub [0, 1, 2, 3, 4, 5, 6, 7, 8, 9] (by decide) rfl) rfl rfl) rfl rfl hl.1 rfl (lv_room (Nat.le_of_ble_eq_true rfl)) dL_fill_11 ⟨Nat.zero_le _, Nat.zero_le _⟩) hP hD hS hA [0, 1, 2, 3, 4, 5, 6, 7, 8, 9] [10] [1, 2, 3, 4, 5, 6, 7, 8, 9, 10, 0] rfl rfl (by decide) (by decide) (fun _ => rfl) (by decide) (fun r_11 u9 H locs hw_11 hP hD hS => ?_)
  obtain ⟨fs2_11, fb2_11, L2_11, K2_11, f2_11, h2_11⟩ := u9
  have hP : va_P D vwCl [(a 0, eTop (a 1) (a 3) (a 5) (a 6) uw), (a 1, eScr (a 2)), (a 2, eJ cy 12 fs2_11), (a 3, eScr (a 4)), (a 4, eJ cy 12 fb2_11), (a 5, eQ cy 2 g), (q 0, eCli (gb (J)) (q 1) (q 3) (q 5) (q 7) (nI L2_11.length) (q 8) (q 9) k), (q 7, eI cy 12 f2_11), (r9 0, eCli (gb (J9)) (r9 1) (r9 3) (r9 5) (r9 7) (nI K2_11.length) (r9 8) (r9 9) k9), (r9 7, eI cy 12 h2_11), (o9, eJ cy 1 fx9)] H := hP
  have hD : va_D AA [(a 0, eTop (a 1) (a 3) (a 5) (a 6) uw), (a 1, eScr (a 2)), (a 2, eJ cy 12 fs2_11), (a 3, eScr (a 4)), (a 4, eJ cy 12 fb2_11), (a 5, eQ cy 2 g), (q 0, eCli (gb (J)) (q 1) (q 3) (q 5) (q 7) (nI L2_11.length) (q 8) (q 9) k), (q 7, eI cy 12 f2_11), (r9 0, eCli (gb (J9)) (r9 1) (r9 3) (r9 5) (r9 7) (nI K2_11.length) (r9 8) (r9 9) k9), (r9 7, eI cy 12 h2_11), (o9, eJ cy 1 fx9)] := hD
  obtain ⟨hr_11, hw_11⟩ := hw_11
  refine g_ti (y := nI (sumD fb2_11 fs2_11 12)) hr_11 ?_
  have hw_11 : gD fs2_11 (finF fs c r w m v) ∧ (∀ k, k < 12 → fb2_11 k = fs k) ∧ L2_11 = stlF J fb2_11 fs2_11 L 12 ∧ K2_11 = stlF J9 fb2_11 fs2_11 K 12 ∧ hN L2_11 f2_11 ∧ hN K2_11 h2_11 := hw_11
  refine lv_i2l hx hb dL_fill_14 rfl ?_
  refine g_last hx hb hG hP hD hS 10 1 rfl rfl (k := 0) (by omega) (by decide) dL_fill_15 (fun H locs hP hD hS => ?_)
  have hP : va_P D vwCl [(a 0, eTop (a 1) (a 3) (a 5) (a 6) uw), (a 1, eScr (a 2)), (a 2, eJ cy 12 fs2_11), (a 3, eScr (a 4)), (a 4, eJ cy 12 fb2_11), (a 5, eQ cy 2 g), (q 0, eCli (gb (J)) (q 1) (q 3) (q 5) (q 7) (nI L2_11.length) (q 8) (q 9) k), (q 7, eI cy 12 f2_11), (r9 0, eCli (gb (J9)) (r9 1) (r9 3) (r9 5) (r9 7) (nI K2_11.length) (r9 8) (r9 9) k9), (r9 7, eI cy 12 h2_11), (o9, eJ cy 1 (vp_updL fx9 0 ((nI (sumD fb2_11 fs2_11 12)).toInt64)))] H := hP
  have hD : va_D AA [(a 0, eTop (a 1) (a 3) (a 5) (a 6) uw), (a 1, eScr (a 2)), (a 2, eJ cy 12 fs2_11), (a 3, eScr (a 4)), (a 4, eJ cy 12 fb2_11), (a 5, eQ cy 2 g), (q 0, eCli (gb (J)) (q 1) (q 3) (q 5) (q 7) (nI L2_11.length) (q 8) (q 9) k), (q 7, eI cy 12 f2_11), (r9 0, eCli (gb (J9)) (r9 1) (r9 3) (r9 5) (r9 7) (nI K2_11.length) (r9 8) (r9 9) k9), (r9 7, eI cy 12 h2_11), (o9, eJ cy 1 (vp_updL fx9 0 ((nI (sumD fb2_11 fs2_11 12)).toInt64)))] := hD
  refine lv_goto (tgt := 23) hx hb dL_fill_16 (by decide) ?_
  refine lv_iconst (v := nI 0) hx hb dL_fill_23 (by decide) ?_
  exact hret _ _ _ _ _ ⟨fs2_11, fb2_11, L2_11, K2_11, f2_11, h2_11⟩ dL_fill_24 (⟨rfl, hw_11⟩) (hP.sub [0, 1, 2, 3, 4, 5, 6, 7, 8, 9, 10] rfl) (hD.sub [0, 1, 2, 3, 4, 5, 6, 7, 8, 9, 10] (by decide) rfl) hS
set_option maxHeartbeats 4000000 in
set_option maxRecDepth 100000 in
theorem cx_L_fill (l : Launch) (hst : l.stackTraces = false) (D : va_G) (cy : Nat → ClassId) (sa : Nat → Nat) (sz : Nat) (a : Nat → Nat) (uw : Int32) (c r w h v : Int32) (o9 : Nat) (hn : ¬ (pBox c r w h ∧ pIn v 0 15)) : Met l yL_fill wsL_fill ({ frames := 8, cells := 1, slots := 6, locals := 137 } : Room) (va_Pc [.ref (a 0), .int c, .int r, .int w, .int h, .int v, .ref o9] (gXw D (gT cy) sa [(a 0, eTop (a 1) (a 3) (a 5) (a 6) uw)] sz)) (va_Qi (fun (r9 : Int32) (_ : Unit) => r9 = nI 1) (fun _ _ => True) (fun q => sz ≤ q)) 1 6 (fun q => sz ≤ q) := by
  refine gH_x (cc := cL_fill) (maxL := 8) (hh := [(0, 16, 19, 13)]) (kx := nI 1) (by decide) rfl (Nat.le_of_ble_eq_true rfl) ?_
  intro pp ee ss mm bw mt cd QQ ls hfx hP hG hE hN hT hret hl
  obtain ⟨hx, hb, hml, hown, hts, hlocks⟩ := hfx
  have hown : ss.vm.findClass RL = some mm.cls := hown
  have hl : lv_has ls 8 [(0, .ref (a 0)), (1, .int c), (2, .int r), (3, .int w), (4, .int h), (5, .int v), (6, .ref o9)] := hl
  refine lv_aload hx hb dL_fill_0 (lv_at hl 6 rfl) ?_
  refine lv_iconst (v := nI 0) hx hb dL_fill_2 (by decide) ?_
  refine lv_aload_n hx hb dL_fill_3 rfl (lv_at hl 0 rfl) ?_
  refine lv_iload_n hx hb dL_fill_4 rfl (lv_at hl 1 rfl) ?_
  refine lv_iload_n hx hb dL_fill_5 rfl (lv_at hl 2 rfl) ?_
  refine lv_iload_n hx hb dL_fill_6 rfl (lv_at hl 3 rfl) ?_
  refine lv_iload hx hb dL_fill_7 (lv_at hl 4 rfl) ?_
  refine lv_iload hx hb dL_fill_9 (lv_at hl 5 rfl) ?_
  refine gx_catch (own := RL) (name := xIA) (fun _ _ _ h => h) (vx_runV (As := [.int c, .int r, .int w, .int h, .int v]) (rest := [.int (nI 0), .ref o9]) ⟨hx, hb, hml, hown, hts⟩ (cx_X3_fill l hst D cy sa ss.heap.size (a 0) c r w h v hn) (cwV 5 hts gL_fill_X3_fill rfl rfl rfl (by decide +kernel) ⟨Nat.le_of_ble_eq_true rfl, Nat.le_of_ble_eq_true rfl⟩) (gpVY (ci := 3) (q0 := 0) hG hE (hP.sub [] rfl) hP rfl rfl) rfl rfl hl.1 rfl (lv_room (Nat.le_of_ble_eq_true rfl)) dL_fill_11 ⟨Nat.le_of_ble_eq_true rfl, Nat.le_of_ble_eq_true rfl⟩) hown [] ⟨0, 16, 19, 13⟩ [] (hT.trans rfl) (fun _ h9 => absurd h9 List.not_mem_nil) rfl (by decide) (hts (.classLink RL 13 xIA) (by decide +kernel)) (gcast hE.2.2.2.2.2.1) (fun H locs q9 hS => ?_)
  refine lv_astore (lv' := [(7, .ref q9), (0, .ref (a 0)), (1, .int c), (2, .int r), (3, .int w), (4, .int h), (5, .int v), (6, .ref o9)]) hx hb dL_fill_19 hl (by decide) rfl (fun ls hl => ?_)
  refine lv_iconst (v := nI 1) hx hb dL_fill_21 (by decide) ?_
  exact hret _ _ _ _ dL_fill_22 hS
set_option maxHeartbeats 4000000 in
set_option maxRecDepth 100000 in
theorem c_L_copy (l : Launch) (D : va_G) (cy : Nat → ClassId) (sz : Nat) (fs fb : Nat → Int64) (a q r9 : Nat → Nat) (uw : Int32) (g : Nat → Option Nat) (J J9 : Prop) (k k9 : Int32) (L K : List Nat) (f h : Nat → Int32) (c r w m : Nat) (dx dy : Int32) (o9 : Nat) (fx9 : Nat → Int64) (hg0 : g 0 = some (q 0)) (hg1 : g 1 = some (r9 0)) (hL : hN L f) (ho : okD L) (hK : hN K h) (hk9 : okD K) (hc : c < 16) (hr : r < 12) (hw : 1 ≤ w ∧ w + c ≤ 16) (hh : 1 ≤ m ∧ m + r ≤ 12) (hdx : pIn dx (-15) 15) (hdy : pIn dy (-11) 11) : Met l yL_copy wsL_copy ({ frames := 4, cells := 0, slots := 0, locals := 98 } : Room) (va_Pc [.ref (a 0), .int (nI c), .int (nI r), .int (nI w), .int (nI m), .int dx, .int dy, .ref o9] (gI D (gT cy) [(a 0, eTop (a 1) (a 3) (a 5) (a 6) uw), (a 1, eScr (a 2)), (a 2, eJ cy 12 fs), (a 3, eScr (a 4)), (a 4, eJ cy 12 fb), (a 5, eQ cy 2 g), (q 0, eCli (gb (J)) (q 1) (q 3) (q 5) (q 7) (nI L.length) (q 8) (q 9) k), (q 7, eI cy 12 f), (r9 0, eCli (gb (J9)) (r9 1) (r9 3) (r9 5) (r9 7) (nI K.length) (r9 8) (r9 9) k9), (r9 7, eI cy 12 h), (o9, eJ cy 1 fx9)] sz)) (va_Qi (fun (r9 : Int32) (u : (Nat → Int64) × (Nat → Int64) × (List Nat) × (List Nat) × (Nat → Int32) × (Nat → Int32)) => r9 = nI 0 ∧ ((gD u.1 (finC fs c r w m dx.toInt dy.toInt) ∧ (∀ k, k < 12 → u.2.1 k = fs k) ∧ u.2.2.1 = stlF J u.2.1 u.1 L 12 ∧ u.2.2.2.1 = stlF J9 u.2.1 u.1 K 12 ∧ hN u.2.2.1 u.2.2.2.2.1 ∧ hN u.2.2.2.1 u.2.2.2.2.2))) (gO D (fun u : (Nat → Int64) × (Nat → Int64) × (List Nat) × (List Nat) × (Nat → Int32) × (Nat → Int32) => [(a 0, eTop (a 1) (a 3) (a 5) (a 6) uw), (a 1, eScr (a 2)), (a 2, eJ cy 12 u.1), (a 3, eScr (a 4)), (a 4, eJ cy 12 u.2.1), (a 5, eQ cy 2 g), (q 0, eCli (gb (J)) (q 1) (q 3) (q 5) (q 7) (nI u.2.2.1.length) (q 8) (q 9) k), (q 7, eI cy 12 u.2.2.2.2.1), (r9 0, eCli (gb (J9)) (r9 1) (r9 3) (r9 5) (r9 7) (nI u.2.2.2.1.length) (r9 8) (r9 9) k9), (r9 7, eI cy 12 u.2.2.2.2.2), (o9, eJ cy 1 (vp_updL fx9 0 ((nI (sumD u.2.1 u.1 12)).toInt64)))]) (va_A [(a 0, eTop (a 1) (a 3) (a 5) (a 6) uw), (a 1, eScr (a 2)), (a 2, eJ cy 12 fs), (a 3, eScr (a 4)), (a 4, eJ cy 12 fb), (a 5, eQ cy 2 g), (q 0, eCli (gb (J)) (q 1) (q 3) (q 5) (q 7) (nI L.length) (q 8) (q 9) k), (q 7, eI cy 12 f), (r9 0, eCli (gb (J9)) (r9 1) (r9 3) (r9 5) (r9 7) (nI K.length) (r9 8) (r9 9) k9), (r9 7, eI cy 12 h), (o9, eJ cy 1 fx9)] sz)) (va_A [(a 0, eTop (a 1) (a 3) (a 5) (a 6) uw), (a 1, eScr (a 2)), (a 2, eJ cy 12 fs), (a 3, eScr (a 4)), (a 4, eJ cy 12 fb), (a 5, eQ cy 2 g), (q 0, eCli (gb (J)) (q 1) (q 3) (q 5) (q 7) (nI L.length) (q 8) (q 9) k), (q 7, eI cy 12 f), (r9 0, eCli (gb (J9)) (r9 1) (r9 3) (r9 5) (r9 7) (nI K.length) (r9 8) (r9 9) k9), (r9 7, eI cy 12 h), (o9, eJ cy 1 fx9)] sz)) 0 0 (va_A [(a 0, eTop (a 1) (a 3) (a 5) (a 6) uw), (a 1, eScr (a 2)), (a 2, eJ cy 12 fs), (a 3, eScr (a 4)), (a 4, eJ cy 12 fb), (a 5, eQ cy 2 g), (q 0, eCli (gb (J)) (q 1) (q 3) (q 5) (q 7) (nI L.length) (q 8) (q 9) k), (q 7, eI cy 12 f), (r9 0, eCli (gb (J9)) (r9 1) (r9 3) (r9 5) (r9 7) (nI K.length) (r9 8) (r9 9) k9), (r9 7, eI cy 12 h), (o9, eJ cy 1 fx9)] sz) := by
  refine gH_i (cc := cL_copy) (maxL := 9) (hh := [(0, 18, 21, 13)]) (by decide) rfl (Nat.le_of_ble_eq_true rfl) ?_
  intro pp ee ss mm bw mt cd QQ AA ls hfx hP hG hD hA hret hl
  have hS : va_S AA ss.heap ss.heap [] := va_S.rf
  obtain ⟨H, eH⟩ : ∃ H, H = ss.heap := ⟨_, rfl⟩
  obtain ⟨locs, eL⟩ : ∃ L : List Loc, L = [] := ⟨_, rfl⟩
  have hP : va_P D vwCl [(a 0, eTop (a 1) (a 3) (a 5) (a 6) uw), (a 1, eScr (a 2)), (a 2, eJ cy 12 fs), (a 3, eScr (a 4)), (a 4, eJ cy 12 fb), (a 5, eQ cy 2 g), (q 0, eCli (gb (J)) (q 1) (q 3) (q 5) (q 7) (nI L.length) (q 8) (q 9) k), (q 7, eI cy 12 f), (r9 0, eCli (gb (J9)) (r9 1) (r9 3) (r9 5) (r9 7) (nI K.length) (r9 8) (r9 9) k9), (r9 7, eI cy 12 h), (o9, eJ cy 1 fx9)] H := by rw [eH]; exact hP
  have hS : va_S AA ss.heap H locs := by rw [eH, eL]; exact hS
  have goal : ∀ X Y, X = H → Y = locs → W pp l ee ({ frames := 4, cells := 0, slots := 0, locals := 98 } : Room) ss mm ([.ref (a 0), .int (nI c), .int (nI r), .int (nI w), .int (nI m), .int dx, .int dy, .ref o9] : List Value).toArray bw mt cd X Y 0 0 QQ (F0 mm 0 ls []) → W pp l ee ({ frames := 4, cells := 0, slots := 0, locals := 98 } : Room) ss mm ([.ref (a 0), .int (nI c), .int (nI r), .int (nI w), .int (nI m), .int dx, .int dy, .ref o9] : List Value).toArray bw mt cd ss.heap [] 0 0 QQ (F0 mm 0 ls []) := fun X Y hX hY h => by rw [hX, hY, eH, eL] at h; exact h
  refine goal H locs rfl rfl ?_
  clear goal eH eL
  obtain ⟨hx, hb, hml, hown, hts, hlocks⟩ := hfx
  have hown : ss.vm.findClass RL = some mm.cls := hown
  have hl : lv_has ls 9 [(0, .ref (a 0)), (1, .int (nI c)), (2, .int (nI r)), (3, .int (nI w)), (4, .int (nI m)), (5, .int dx), (6, .int dy), (7, .ref o9)] := hl
  refine lv_aload hx hb dL_copy_0 (lv_at hl 7 rfl) ?_
  refine lv_iconst (v := nI 0) hx hb dL_copy_2 (by decide) ?_
  refine lv_aload_n hx hb dL_copy_3 rfl (lv_at hl 0 rfl) ?_
  refine lv_iload_n hx hb dL_copy_4 rfl (lv_at hl 1 rfl) ?_
  refine lv_iload_n hx hb dL_copy_5 rfl (lv_at hl 2 rfl) ?_
  refine lv_iload_n hx hb dL_copy_6 rfl (lv_at hl 3 rfl) ?_
  refine lv_iload hx hb dL_copy_7 (lv_at hl 4 rfl) ?_
  refine lv_iload hx hb dL_copy_9 (lv_at hl 5 rfl) ?_
  refine lv_iload hx hb dL_copy_11 (lv_at hl 6 rfl) ?_
  refine gc_Wi (wn := fun u => [(a 0, eTop (a 1) (a 3) (a 5) (a 6) uw), (a 1, eScr (a 2)), (a 2, eJ cy 12 u.1), (a 3, eScr (a 4)), (a 4, eJ cy 12 u.2.1), (a 5, eQ cy 2 g), (q 0, eCli (gb (J)) (q 1) (q 3) (q 5) (q 7) (nI u.2.2.1.length) (q 8) (q 9) k), (q 7, eI cy 12 u.2.2.2.2.1), (r9 0, eCli (gb (J9)) (r9 1) (r9 3) (r9 5) (r9 7) (nI u.2.2.2.1.length) (r9 8) (r9 9) k9), (r9 7, eI cy 12 u.2.2.2.2.2), (o9, eJ cy 1 fx9)]) (wr := [(o9, eJ cy 1 fx9)]) (va_runV (As := [.int (nI c), .int (nI r), .int (nI w), .int (nI m), .int dx, .int dy]) (rest := [.int (nI 0), .ref o9]) ⟨hx, hb, hml, hown, hts⟩ (c_X3_copy l D cy H.size fs fb a q r9 uw g J J9 k k9 L K f h c r w m dx dy hg0 hg1 hL ho hK hk9 hc hr hw hh hdx hdy) (cwV 6 hts gL_copy_X3_copy rfl rfl rfl (by decide +kernel) ⟨Nat.le_of_ble_eq_true rfl, Nat.le_of_ble_eq_true rfl⟩) (gpVI (ci := 3) (q0 := 0) hG (hP.sub [0, 1, 2, 3, 4, 5, 6, 7, 8, 9] rfl) (hD.sub [0, 1, 2, 3, 4, 5, 6, 7, 8, 9] (by decide) rfl) rfl rfl) rfl rfl hl.1 rfl (lv_room (Nat.le_of_ble_eq_true rfl)) dL_copy_13 ⟨Nat.zero_le _, Nat.zero_le _⟩) hP hD hS hA [0, 1, 2, 3, 4, 5, 6, 7, 8, 9] [10] [1, 2, 3, 4, 5, 6, 7, 8, 9, 10, 0] rfl rfl (by decide) (by decide) (fun _ => rfl) (by decide) (fun r_13 u9 H locs hw_13 hP hD hS => ?_)
  obtain ⟨fs2_13, fb2_13, L2_13, K2_13, f2_13, h2_13⟩ := u9
  have hP : va_P D vwCl [(a 0, eTop (a 1) (a 3) (a 5) (a 6) uw), (a 1, eScr (a 2)), (a 2, eJ cy 12 fs2_13), (a 3, eScr (a 4)), (a 4, eJ cy 12 fb2_13), (a 5, eQ cy 2 g), (q 0, eCli (gb (J)) (q 1) (q 3) (q 5) (q 7) (nI L2_13.length) (q 8) (q 9) k), (q 7, eI cy 12 f2_13), (r9 0, eCli (gb (J9)) (r9 1) (r9 3) (r9 5) (r9 7) (nI K2_13.length) (r9 8) (r9 9) k9), (r9 7, eI cy 12 h2_13), (o9, eJ cy 1 fx9)] H := hP
  have hD : va_D AA [(a 0, eTop (a 1) (a 3) (a 5) (a 6) uw), (a 1, eScr (a 2)), (a 2, eJ cy 12 fs2_13), (a 3, eScr (a 4)), (a 4, eJ cy 12 fb2_13), (a 5, eQ cy 2 g), (q 0, eCli (gb (J)) (q 1) (q 3) (q 5) (q 7) (nI L2_13.length) (q 8) (q 9) k), (q 7, eI cy 12 f2_13), (r9 0, eCli (gb (J9)) (r9 1) (r9 3) (r9 5) (r9 7) (nI K2_13.length) (r9 8) (r9 9) k9), (r9 7, eI cy 12 h2_13), (o9, eJ cy 1 fx9)] := hD
  obtain ⟨hr_13, hw_13⟩ := hw_13
  refine g_ti (y := nI (sumD fb2_13 fs2_13 12)) hr_13 ?_
  have hw_13 : gD fs2_13 (finC fs c r w m dx.toInt dy.toInt) ∧ (∀ k, k < 12 → fb2_13 k = fs k) ∧ L2_13 = stlF J fb2_13 fs2_13 L 12 ∧ K2_13 = stlF J9 fb2_13 fs2_13 K 12 ∧ hN L2_13 f2_13 ∧ hN K2_13 h2_13 := hw_13
  refine lv_i2l hx hb dL_copy_16 rfl ?_
  refine g_last hx hb hG hP hD hS 10 1 rfl rfl (k := 0) (by omega) (by decide) dL_copy_17 (fun H locs hP hD hS => ?_)
  have hP : va_P D vwCl [(a 0, eTop (a 1) (a 3) (a 5) (a 6) uw), (a 1, eScr (a 2)), (a 2, eJ cy 12 fs2_13), (a 3, eScr (a 4)), (a 4, eJ cy 12 fb2_13), (a 5, eQ cy 2 g), (q 0, eCli (gb (J)) (q 1) (q 3) (q 5) (q 7) (nI L2_13.length) (q 8) (q 9) k), (q 7, eI cy 12 f2_13), (r9 0, eCli (gb (J9)) (r9 1) (r9 3) (r9 5) (r9 7) (nI K2_13.length) (r9 8) (r9 9) k9), (r9 7, eI cy 12 h2_13), (o9, eJ cy 1 (vp_updL fx9 0 ((nI (sumD fb2_13 fs2_13 12)).toInt64)))] H := hP
  have hD : va_D AA [(a 0, eTop (a 1) (a 3) (a 5) (a 6) uw), (a 1, eScr (a 2)), (a 2, eJ cy 12 fs2_13), (a 3, eScr (a 4)), (a 4, eJ cy 12 fb2_13), (a 5, eQ cy 2 g), (q 0, eCli (gb (J)) (q 1) (q 3) (q 5) (q 7) (nI L2_13.length) (q 8) (q 9) k), (q 7, eI cy 12 f2_13), (r9 0, eCli (gb (J9)) (r9 1) (r9 3) (r9 5) (r9 7) (nI K2_13.length) (r9 8) (r9 9) k9), (r9 7, eI cy 12 h2_13), (o9, eJ cy 1 (vp_updL fx9 0 ((nI (sumD fb2_13 fs2_13 12)).toInt64)))] := hD
  refine lv_goto (tgt := 25) hx hb dL_copy_18 (by decide) ?_
  refine lv_iconst (v := nI 0) hx hb dL_copy_25 (by decide) ?_
  exact hret _ _ _ _ _ ⟨fs2_13, fb2_13, L2_13, K2_13, f2_13, h2_13⟩ dL_copy_26 (⟨rfl, hw_13⟩) (hP.sub [0, 1, 2, 3, 4, 5, 6, 7, 8, 9, 10] rfl) (hD.sub [0, 1, 2, 3, 4, 5, 6, 7, 8, 9, 10] (by decide) rfl) hS
set_option maxHeartbeats 4000000 in
set_option maxRecDepth 100000 in
theorem cx_L_copy (l : Launch) (hst : l.stackTraces = false) (D : va_G) (cy : Nat → ClassId) (sa : Nat → Nat) (sz : Nat) (a : Nat → Nat) (uw : Int32) (c r w h x y : Int32) (o9 : Nat) (hn : ¬ (pBox c r w h ∧ pIn x (-15) 15 ∧ pIn y (-11) 11)) : Met l yL_copy wsL_copy ({ frames := 8, cells := 1, slots := 6, locals := 138 } : Room) (va_Pc [.ref (a 0), .int c, .int r, .int w, .int h, .int x, .int y, .ref o9] (gXw D (gT cy) sa [(a 0, eTop (a 1) (a 3) (a 5) (a 6) uw)] sz)) (va_Qi (fun (r9 : Int32) (_ : Unit) => r9 = nI 1) (fun _ _ => True) (fun q => sz ≤ q)) 1 6 (fun q => sz ≤ q) := by
  refine gH_x (cc := cL_copy) (maxL := 9) (hh := [(0, 18, 21, 13)]) (kx := nI 1) (by decide) rfl (Nat.le_of_ble_eq_true rfl) ?_
  intro pp ee ss mm bw mt cd QQ ls hfx hP hG hE hN hT hret hl
  obtain ⟨hx, hb, hml, hown, hts, hlocks⟩ := hfx
  have hown : ss.vm.findClass RL = some mm.cls := hown
  have hl : lv_has ls 9 [(0, .ref (a 0)), (1, .int c), (2, .int r), (3, .int w), (4, .int h), (5, .int x), (6, .int y), (7, .ref o9)] := hl
  refine lv_aload hx hb dL_copy_0 (lv_at hl 7 rfl) ?_
  refine lv_iconst (v := nI 0) hx hb dL_copy_2 (by decide) ?_
  refine lv_aload_n hx hb dL_copy_3 rfl (lv_at hl 0 rfl) ?_
  refine lv_iload_n hx hb dL_copy_4 rfl (lv_at hl 1 rfl) ?_
  refine lv_iload_n hx hb dL_copy_5 rfl (lv_at hl 2 rfl) ?_
  refine lv_iload_n hx hb dL_copy_6 rfl (lv_at hl 3 rfl) ?_
  refine lv_iload hx hb dL_copy_7 (lv_at hl 4 rfl) ?_
  refine lv_iload hx hb dL_copy_9 (lv_at hl 5 rfl) ?_
  refine lv_iload hx hb dL_copy_11 (lv_at hl 6 rfl) ?_
  refine gx_catch (own := RL) (name := xIA) (fun _ _ _ h => h) (vx_runV (As := [.int c, .int r, .int w, .int h, .int x, .int y]) (rest := [.int (nI 0), .ref o9]) ⟨hx, hb, hml, hown, hts⟩ (cx_X3_copy l hst D cy sa ss.heap.size (a 0) c r w h x y hn) (cwV 6 hts gL_copy_X3_copy rfl rfl rfl (by decide +kernel) ⟨Nat.le_of_ble_eq_true rfl, Nat.le_of_ble_eq_true rfl⟩) (gpVY (ci := 3) (q0 := 0) hG hE (hP.sub [] rfl) hP rfl rfl) rfl rfl hl.1 rfl (lv_room (Nat.le_of_ble_eq_true rfl)) dL_copy_13 ⟨Nat.le_of_ble_eq_true rfl, Nat.le_of_ble_eq_true rfl⟩) hown [] ⟨0, 18, 21, 13⟩ [] (hT.trans rfl) (fun _ h9 => absurd h9 List.not_mem_nil) rfl (by decide) (hts (.classLink RL 13 xIA) (by decide +kernel)) (gcast hE.2.2.2.2.2.1) (fun H locs q9 hS => ?_)
  refine lv_astore (lv' := [(8, .ref q9), (0, .ref (a 0)), (1, .int c), (2, .int r), (3, .int w), (4, .int h), (5, .int x), (6, .int y), (7, .ref o9)]) hx hb dL_copy_21 hl (by decide) rfl (fun ls hl => ?_)
  refine lv_iconst (v := nI 1) hx hb dL_copy_23 (by decide) ?_
  exact hret _ _ _ _ dL_copy_24 hS
set_option maxHeartbeats 4000000 in
set_option maxRecDepth 100000 in
theorem c_L_colour (l : Launch) (D : va_G) (cy : Nat → ClassId) (sz : Nat) (a : Nat → Nat) (uw : Int32) (fs : Nat → Int64) (c r : Nat) (o9 : Nat) (fx9 : Nat → Int64) (hc : c < 16) (hr : r < 12) : Met l yL_colour wsL_colour ({ frames := 3, cells := 0, slots := 0, locals := 66 } : Room) (va_Pc [.ref (a 0), .int (nI c), .int (nI r), .ref o9] (gI D (gT cy) [(a 0, eTop (a 1) (a 3) (a 5) (a 6) uw), (a 1, eScr (a 2)), (a 2, eJ cy 12 fs), (o9, eJ cy 1 fx9)] sz)) (va_Qi (fun (r9 : Int32) (u : Unit) => r9 = nI 0 ∧ ((True))) (gO D (fun u : Unit => [(a 0, eTop (a 1) (a 3) (a 5) (a 6) uw), (a 1, eScr (a 2)), (a 2, eJ cy 12 fs), (o9, eJ cy 1 (vp_updL fx9 0 ((nI (cel (fs (tl c r)) (plc c r))).toInt64)))]) (va_A [(a 0, eTop (a 1) (a 3) (a 5) (a 6) uw), (a 1, eScr (a 2)), (a 2, eJ cy 12 fs), (o9, eJ cy 1 fx9)] sz)) (va_A [(a 0, eTop (a 1) (a 3) (a 5) (a 6) uw), (a 1, eScr (a 2)), (a 2, eJ cy 12 fs), (o9, eJ cy 1 fx9)] sz)) 0 0 (va_A [(a 0, eTop (a 1) (a 3) (a 5) (a 6) uw), (a 1, eScr (a 2)), (a 2, eJ cy 12 fs), (o9, eJ cy 1 fx9)] sz) := by
  refine gH_i (cc := cL_colour) (maxL := 5) (hh := [(0, 10, 13, 13)]) (by decide) rfl (Nat.le_of_ble_eq_true rfl) ?_
  intro pp ee ss mm bw mt cd QQ AA ls hfx hP hG hD hA hret hl
  have hS : va_S AA ss.heap ss.heap [] := va_S.rf
  obtain ⟨H, eH⟩ : ∃ H, H = ss.heap := ⟨_, rfl⟩
  obtain ⟨locs, eL⟩ : ∃ L : List Loc, L = [] := ⟨_, rfl⟩
  have hP : va_P D vwCl [(a 0, eTop (a 1) (a 3) (a 5) (a 6) uw), (a 1, eScr (a 2)), (a 2, eJ cy 12 fs), (o9, eJ cy 1 fx9)] H := by rw [eH]; exact hP
  have hS : va_S AA ss.heap H locs := by rw [eH, eL]; exact hS
  have goal : ∀ X Y, X = H → Y = locs → W pp l ee ({ frames := 3, cells := 0, slots := 0, locals := 66 } : Room) ss mm ([.ref (a 0), .int (nI c), .int (nI r), .ref o9] : List Value).toArray bw mt cd X Y 0 0 QQ (F0 mm 0 ls []) → W pp l ee ({ frames := 3, cells := 0, slots := 0, locals := 66 } : Room) ss mm ([.ref (a 0), .int (nI c), .int (nI r), .ref o9] : List Value).toArray bw mt cd ss.heap [] 0 0 QQ (F0 mm 0 ls []) := fun X Y hX hY h => by rw [hX, hY, eH, eL] at h; exact h
  refine goal H locs rfl rfl ?_
  clear goal eH eL
  obtain ⟨hx, hb, hml, hown, hts, hlocks⟩ := hfx
  have hown : ss.vm.findClass RL = some mm.cls := hown
  have hl : lv_has ls 5 [(0, .ref (a 0)), (1, .int (nI c)), (2, .int (nI r)), (3, .ref o9)] := hl
  refine lv_aload_n hx hb dL_colour_0 rfl (lv_at hl 3 rfl) ?_
  refine lv_iconst (v := nI 0) hx hb dL_colour_1 (by decide) ?_
  refine lv_aload_n hx hb dL_colour_2 rfl (lv_at hl 0 rfl) ?_
  refine lv_iload_n hx hb dL_colour_3 rfl (lv_at hl 1 rfl) ?_
  refine lv_iload_n hx hb dL_colour_4 rfl (lv_at hl 2 rfl) ?_
  refine gc_Si (va_runV (As := [.int (nI c), .int (nI r)]) (rest := [.int (nI 0), .ref o9]) ⟨hx, hb, hml, hown, hts⟩ (c_X3_colour l D cy a uw fs c r hc hr) (cwV 2 hts gL_colour_X3_colour rfl rfl rfl (by decide +kernel) ⟨Nat.le_of_ble_eq_true rfl, Nat.le_of_ble_eq_true rfl⟩) (gpVR (ci := 3) (q0 := 0) hG (hP.sub [0, 1, 2] rfl) rfl rfl) rfl rfl hl.1 rfl (lv_room (Nat.le_of_ble_eq_true rfl)) dL_colour_5 ⟨Nat.zero_le _, Nat.zero_le _⟩) ?_
  refine lv_i2l hx hb dL_colour_8 rfl ?_
  refine g_last hx hb hG hP hD hS 3 1 rfl rfl (k := 0) (by omega) (by decide) dL_colour_9 (fun H locs hP hD hS => ?_)
  have hP : va_P D vwCl [(a 0, eTop (a 1) (a 3) (a 5) (a 6) uw), (a 1, eScr (a 2)), (a 2, eJ cy 12 fs), (o9, eJ cy 1 (vp_updL fx9 0 ((nI (cel (fs (tl c r)) (plc c r))).toInt64)))] H := hP
  have hD : va_D AA [(a 0, eTop (a 1) (a 3) (a 5) (a 6) uw), (a 1, eScr (a 2)), (a 2, eJ cy 12 fs), (o9, eJ cy 1 (vp_updL fx9 0 ((nI (cel (fs (tl c r)) (plc c r))).toInt64)))] := hD
  refine lv_goto (tgt := 17) hx hb dL_colour_10 (by decide) ?_
  refine lv_iconst (v := nI 0) hx hb dL_colour_17 (by decide) ?_
  exact hret _ _ _ _ _ () dL_colour_18 (⟨rfl, trivial⟩) (hP.sub [0, 1, 2, 3] rfl) (hD.sub [0, 1, 2, 3] (by decide) rfl) hS
set_option maxHeartbeats 4000000 in
set_option maxRecDepth 100000 in
theorem cx_L_colour (l : Launch) (hst : l.stackTraces = false) (D : va_G) (cy : Nat → ClassId) (sa : Nat → Nat) (sz : Nat) (a : Nat → Nat) (uw : Int32) (c r : Int32) (o9 : Nat) (hn : ¬ pCell c r) : Met l yL_colour wsL_colour ({ frames := 8, cells := 1, slots := 6, locals := 132 } : Room) (va_Pc [.ref (a 0), .int c, .int r, .ref o9] (gXw D (gT cy) sa [(a 0, eTop (a 1) (a 3) (a 5) (a 6) uw)] sz)) (va_Qi (fun (r9 : Int32) (_ : Unit) => r9 = nI 1) (fun _ _ => True) (fun q => sz ≤ q)) 1 6 (fun q => sz ≤ q) := by
  refine gH_x (cc := cL_colour) (maxL := 5) (hh := [(0, 10, 13, 13)]) (kx := nI 1) (by decide) rfl (Nat.le_of_ble_eq_true rfl) ?_
  intro pp ee ss mm bw mt cd QQ ls hfx hP hG hE hN hT hret hl
  obtain ⟨hx, hb, hml, hown, hts, hlocks⟩ := hfx
  have hown : ss.vm.findClass RL = some mm.cls := hown
  have hl : lv_has ls 5 [(0, .ref (a 0)), (1, .int c), (2, .int r), (3, .ref o9)] := hl
  refine lv_aload_n hx hb dL_colour_0 rfl (lv_at hl 3 rfl) ?_
  refine lv_iconst (v := nI 0) hx hb dL_colour_1 (by decide) ?_
  refine lv_aload_n hx hb dL_colour_2 rfl (lv_at hl 0 rfl) ?_
  refine lv_iload_n hx hb dL_colour_3 rfl (lv_at hl 1 rfl) ?_
  refine lv_iload_n hx hb dL_colour_4 rfl (lv_at hl 2 rfl) ?_
  refine gx_catch (own := RL) (name := xIA) (fun _ _ _ h => h) (vx_runV (As := [.int c, .int r]) (rest := [.int (nI 0), .ref o9]) ⟨hx, hb, hml, hown, hts⟩ (cx_X3_colour l hst D cy sa ss.heap.size (a 0) c r hn) (cwV 2 hts gL_colour_X3_colour rfl rfl rfl (by decide +kernel) ⟨Nat.le_of_ble_eq_true rfl, Nat.le_of_ble_eq_true rfl⟩) (gpVY (ci := 3) (q0 := 0) hG hE (hP.sub [] rfl) hP rfl rfl) rfl rfl hl.1 rfl (lv_room (Nat.le_of_ble_eq_true rfl)) dL_colour_5 ⟨Nat.le_of_ble_eq_true rfl, Nat.le_of_ble_eq_true rfl⟩) hown [] ⟨0, 10, 13, 13⟩ [] (hT.trans rfl) (fun _ h9 => absurd h9 List.not_mem_nil) rfl (by decide) (hts (.classLink RL 13 xIA) (by decide +kernel)) (gcast hE.2.2.2.2.2.1) (fun H locs q9 hS => ?_)
  refine lv_astore (lv' := [(4, .ref q9), (0, .ref (a 0)), (1, .int c), (2, .int r), (3, .ref o9)]) hx hb dL_colour_13 hl (by decide) rfl (fun ls hl => ?_)
  refine lv_iconst (v := nI 1) hx hb dL_colour_15 (by decide) ?_
  exact hret _ _ _ _ dL_colour_16 hS
set_option maxHeartbeats 4000000 in
set_option maxRecDepth 100000 in
theorem c_L_colours (l : Launch) (D : va_G) (cy : Nat → ClassId) (sz : Nat) (a : Nat → Nat) (uw : Int32) (fs : Nat → Int64) (t : Nat) (o9 : Nat) (fx9 : Nat → Int64) (ht9 : t < 12) : Met l yL_colours wsL_colours ({ frames := 3, cells := 0, slots := 0, locals := 66 } : Room) (va_Pc [.ref (a 0), .int (nI t), .ref o9] (gI D (gT cy) [(a 0, eTop (a 1) (a 3) (a 5) (a 6) uw), (a 1, eScr (a 2)), (a 2, eJ cy 12 fs), (o9, eJ cy 1 fx9)] sz)) (va_Qi (fun (r9 : Int32) (u : Unit) => r9 = nI 0 ∧ ((True))) (gO D (fun u : Unit => [(a 0, eTop (a 1) (a 3) (a 5) (a 6) uw), (a 1, eScr (a 2)), (a 2, eJ cy 12 fs), (o9, eJ cy 1 (vp_updL fx9 0 ((nI (nCol (fs t))).toInt64)))]) (va_A [(a 0, eTop (a 1) (a 3) (a 5) (a 6) uw), (a 1, eScr (a 2)), (a 2, eJ cy 12 fs), (o9, eJ cy 1 fx9)] sz)) (va_A [(a 0, eTop (a 1) (a 3) (a 5) (a 6) uw), (a 1, eScr (a 2)), (a 2, eJ cy 12 fs), (o9, eJ cy 1 fx9)] sz)) 0 0 (va_A [(a 0, eTop (a 1) (a 3) (a 5) (a 6) uw), (a 1, eScr (a 2)), (a 2, eJ cy 12 fs), (o9, eJ cy 1 fx9)] sz) := by
  refine gH_i (cc := cL_colours) (maxL := 4) (hh := [(0, 9, 12, 13)]) (by decide) rfl (Nat.le_of_ble_eq_true rfl) ?_
  intro pp ee ss mm bw mt cd QQ AA ls hfx hP hG hD hA hret hl
  have hS : va_S AA ss.heap ss.heap [] := va_S.rf
  obtain ⟨H, eH⟩ : ∃ H, H = ss.heap := ⟨_, rfl⟩
  obtain ⟨locs, eL⟩ : ∃ L : List Loc, L = [] := ⟨_, rfl⟩
  have hP : va_P D vwCl [(a 0, eTop (a 1) (a 3) (a 5) (a 6) uw), (a 1, eScr (a 2)), (a 2, eJ cy 12 fs), (o9, eJ cy 1 fx9)] H := by rw [eH]; exact hP
  have hS : va_S AA ss.heap H locs := by rw [eH, eL]; exact hS
  have goal : ∀ X Y, X = H → Y = locs → W pp l ee ({ frames := 3, cells := 0, slots := 0, locals := 66 } : Room) ss mm ([.ref (a 0), .int (nI t), .ref o9] : List Value).toArray bw mt cd X Y 0 0 QQ (F0 mm 0 ls []) → W pp l ee ({ frames := 3, cells := 0, slots := 0, locals := 66 } : Room) ss mm ([.ref (a 0), .int (nI t), .ref o9] : List Value).toArray bw mt cd ss.heap [] 0 0 QQ (F0 mm 0 ls []) := fun X Y hX hY h => by rw [hX, hY, eH, eL] at h; exact h
  refine goal H locs rfl rfl ?_
  clear goal eH eL
  obtain ⟨hx, hb, hml, hown, hts, hlocks⟩ := hfx
  have hown : ss.vm.findClass RL = some mm.cls := hown
  have hl : lv_has ls 4 [(0, .ref (a 0)), (1, .int (nI t)), (2, .ref o9)] := hl
  refine lv_aload_n hx hb dL_colours_0 rfl (lv_at hl 2 rfl) ?_
  refine lv_iconst (v := nI 0) hx hb dL_colours_1 (by decide) ?_
  refine lv_aload_n hx hb dL_colours_2 rfl (lv_at hl 0 rfl) ?_
  refine lv_iload_n hx hb dL_colours_3 rfl (lv_at hl 1 rfl) ?_
  refine gc_Si (va_runV (As := [.int (nI t)]) (rest := [.int (nI 0), .ref o9]) ⟨hx, hb, hml, hown, hts⟩ (c_X3_colours l D cy a uw fs t ht9) (cwV 1 hts gL_colours_X3_colours rfl rfl rfl (by decide +kernel) ⟨Nat.le_of_ble_eq_true rfl, Nat.le_of_ble_eq_true rfl⟩) (gpVR (ci := 3) (q0 := 0) hG (hP.sub [0, 1, 2] rfl) rfl rfl) rfl rfl hl.1 rfl (lv_room (Nat.le_of_ble_eq_true rfl)) dL_colours_4 ⟨Nat.zero_le _, Nat.zero_le _⟩) ?_
  refine lv_i2l hx hb dL_colours_7 rfl ?_
  refine g_last hx hb hG hP hD hS 3 1 rfl rfl (k := 0) (by omega) (by decide) dL_colours_8 (fun H locs hP hD hS => ?_)
  have hP : va_P D vwCl [(a 0, eTop (a 1) (a 3) (a 5) (a 6) uw), (a 1, eScr (a 2)), (a 2, eJ cy 12 fs), (o9, eJ cy 1 (vp_updL fx9 0 ((nI (nCol (fs t))).toInt64)))] H := hP
  have hD : va_D AA [(a 0, eTop (a 1) (a 3) (a 5) (a 6) uw), (a 1, eScr (a 2)), (a 2, eJ cy 12 fs), (o9, eJ cy 1 (vp_updL fx9 0 ((nI (nCol (fs t))).toInt64)))] := hD
  refine lv_goto (tgt := 15) hx hb dL_colours_9 (by decide) ?_
  refine lv_iconst (v := nI 0) hx hb dL_colours_15 (by decide) ?_
  exact hret _ _ _ _ _ () dL_colours_16 (⟨rfl, trivial⟩) (hP.sub [0, 1, 2, 3] rfl) (hD.sub [0, 1, 2, 3] (by decide) rfl) hS
set_option maxHeartbeats 4000000 in
set_option maxRecDepth 100000 in
theorem cx_L_colours (l : Launch) (hst : l.stackTraces = false) (D : va_G) (cy : Nat → ClassId) (sa : Nat → Nat) (sz : Nat) (a : Nat → Nat) (uw : Int32) (t : Int32) (o9 : Nat) (hn : ¬ pIn t 0 11) : Met l yL_colours wsL_colours ({ frames := 8, cells := 1, slots := 6, locals := 131 } : Room) (va_Pc [.ref (a 0), .int t, .ref o9] (gXw D (gT cy) sa [(a 0, eTop (a 1) (a 3) (a 5) (a 6) uw)] sz)) (va_Qi (fun (r9 : Int32) (_ : Unit) => r9 = nI 1) (fun _ _ => True) (fun q => sz ≤ q)) 1 6 (fun q => sz ≤ q) := by
  refine gH_x (cc := cL_colours) (maxL := 4) (hh := [(0, 9, 12, 13)]) (kx := nI 1) (by decide) rfl (Nat.le_of_ble_eq_true rfl) ?_
  intro pp ee ss mm bw mt cd QQ ls hfx hP hG hE hN hT hret hl
  obtain ⟨hx, hb, hml, hown, hts, hlocks⟩ := hfx
  have hown : ss.vm.findClass RL = some mm.cls := hown
  have hl : lv_has ls 4 [(0, .ref (a 0)), (1, .int t), (2, .ref o9)] := hl
  refine lv_aload_n hx hb dL_colours_0 rfl (lv_at hl 2 rfl) ?_
  refine lv_iconst (v := nI 0) hx hb dL_colours_1 (by decide) ?_
  refine lv_aload_n hx hb dL_colours_2 rfl (lv_at hl 0 rfl) ?_
  refine lv_iload_n hx hb dL_colours_3 rfl (lv_at hl 1 rfl) ?_
  refine gx_catch (own := RL) (name := xIA) (fun _ _ _ h => h) (vx_runV (As := [.int t]) (rest := [.int (nI 0), .ref o9]) ⟨hx, hb, hml, hown, hts⟩ (cx_X3_colours l hst D cy sa ss.heap.size (a 0) t hn) (cwV 1 hts gL_colours_X3_colours rfl rfl rfl (by decide +kernel) ⟨Nat.le_of_ble_eq_true rfl, Nat.le_of_ble_eq_true rfl⟩) (gpVY (ci := 3) (q0 := 0) hG hE (hP.sub [] rfl) hP rfl rfl) rfl rfl hl.1 rfl (lv_room (Nat.le_of_ble_eq_true rfl)) dL_colours_4 ⟨Nat.le_of_ble_eq_true rfl, Nat.le_of_ble_eq_true rfl⟩) hown [] ⟨0, 9, 12, 13⟩ [] (hT.trans rfl) (fun _ h9 => absurd h9 List.not_mem_nil) rfl (by decide) (hts (.classLink RL 13 xIA) (by decide +kernel)) (gcast hE.2.2.2.2.2.1) (fun H locs q9 hS => ?_)
  refine lv_astore_n (lv' := [(3, .ref q9), (0, .ref (a 0)), (1, .int t), (2, .ref o9)]) hx hb dL_colours_12 rfl hl (by decide) rfl (fun ls hl => ?_)
  refine lv_iconst (v := nI 1) hx hb dL_colours_13 (by decide) ?_
  exact hret _ _ _ _ dL_colours_14 hS
set_option maxHeartbeats 4000000 in
set_option maxRecDepth 100000 in
theorem c_L_runs (l : Launch) (D : va_G) (cy : Nat → ClassId) (sz : Nat) (a : Nat → Nat) (uw : Int32) (fs : Nat → Int64) (t : Nat) (o9 : Nat) (fx9 : Nat → Int64) (ht9 : t < 12) : Met l yL_runs wsL_runs ({ frames := 3, cells := 0, slots := 0, locals := 66 } : Room) (va_Pc [.ref (a 0), .int (nI t), .ref o9] (gI D (gT cy) [(a 0, eTop (a 1) (a 3) (a 5) (a 6) uw), (a 1, eScr (a 2)), (a 2, eJ cy 12 fs), (o9, eJ cy 1 fx9)] sz)) (va_Qi (fun (r9 : Int32) (u : Unit) => r9 = nI 0 ∧ ((True))) (gO D (fun u : Unit => [(a 0, eTop (a 1) (a 3) (a 5) (a 6) uw), (a 1, eScr (a 2)), (a 2, eJ cy 12 fs), (o9, eJ cy 1 (vp_updL fx9 0 ((nI (nRun (fs t))).toInt64)))]) (va_A [(a 0, eTop (a 1) (a 3) (a 5) (a 6) uw), (a 1, eScr (a 2)), (a 2, eJ cy 12 fs), (o9, eJ cy 1 fx9)] sz)) (va_A [(a 0, eTop (a 1) (a 3) (a 5) (a 6) uw), (a 1, eScr (a 2)), (a 2, eJ cy 12 fs), (o9, eJ cy 1 fx9)] sz)) 0 0 (va_A [(a 0, eTop (a 1) (a 3) (a 5) (a 6) uw), (a 1, eScr (a 2)), (a 2, eJ cy 12 fs), (o9, eJ cy 1 fx9)] sz) := by
  refine gH_i (cc := cL_runs) (maxL := 4) (hh := [(0, 9, 12, 13)]) (by decide) rfl (Nat.le_of_ble_eq_true rfl) ?_
  intro pp ee ss mm bw mt cd QQ AA ls hfx hP hG hD hA hret hl
  have hS : va_S AA ss.heap ss.heap [] := va_S.rf
  obtain ⟨H, eH⟩ : ∃ H, H = ss.heap := ⟨_, rfl⟩
  obtain ⟨locs, eL⟩ : ∃ L : List Loc, L = [] := ⟨_, rfl⟩
  have hP : va_P D vwCl [(a 0, eTop (a 1) (a 3) (a 5) (a 6) uw), (a 1, eScr (a 2)), (a 2, eJ cy 12 fs), (o9, eJ cy 1 fx9)] H := by rw [eH]; exact hP
  have hS : va_S AA ss.heap H locs := by rw [eH, eL]; exact hS
  have goal : ∀ X Y, X = H → Y = locs → W pp l ee ({ frames := 3, cells := 0, slots := 0, locals := 66 } : Room) ss mm ([.ref (a 0), .int (nI t), .ref o9] : List Value).toArray bw mt cd X Y 0 0 QQ (F0 mm 0 ls []) → W pp l ee ({ frames := 3, cells := 0, slots := 0, locals := 66 } : Room) ss mm ([.ref (a 0), .int (nI t), .ref o9] : List Value).toArray bw mt cd ss.heap [] 0 0 QQ (F0 mm 0 ls []) := fun X Y hX hY h => by rw [hX, hY, eH, eL] at h; exact h
  refine goal H locs rfl rfl ?_
  clear goal eH eL
  obtain ⟨hx, hb, hml, hown, hts, hlocks⟩ := hfx
  have hown : ss.vm.findClass RL = some mm.cls := hown
  have hl : lv_has ls 4 [(0, .ref (a 0)), (1, .int (nI t)), (2, .ref o9)] := hl
  refine lv_aload_n hx hb dL_runs_0 rfl (lv_at hl 2 rfl) ?_
  refine lv_iconst (v := nI 0) hx hb dL_runs_1 (by decide) ?_
  refine lv_aload_n hx hb dL_runs_2 rfl (lv_at hl 0 rfl) ?_
  refine lv_iload_n hx hb dL_runs_3 rfl (lv_at hl 1 rfl) ?_
  refine gc_Si (va_runV (As := [.int (nI t)]) (rest := [.int (nI 0), .ref o9]) ⟨hx, hb, hml, hown, hts⟩ (c_X3_runs l D cy a uw fs t ht9) (cwV 1 hts gL_runs_X3_runs rfl rfl rfl (by decide +kernel) ⟨Nat.le_of_ble_eq_true rfl, Nat.le_of_ble_eq_true rfl⟩) (gpVR (ci := 3) (q0 := 0) hG (hP.sub [0, 1, 2] rfl) rfl rfl) rfl rfl hl.1 rfl (lv_room (Nat.le_of_ble_eq_true rfl)) dL_runs_4 ⟨Nat.zero_le _, Nat.zero_le _⟩) ?_
  refine lv_i2l hx hb dL_runs_7 rfl ?_
  refine g_last hx hb hG hP hD hS 3 1 rfl rfl (k := 0) (by omega) (by decide) dL_runs_8 (fun H locs hP hD hS => ?_)
  have hP : va_P D vwCl [(a 0, eTop (a 1) (a 3) (a 5) (a 6) uw), (a 1, eScr (a 2)), (a 2, eJ cy 12 fs), (o9, eJ cy 1 (vp_updL fx9 0 ((nI (nRun (fs t))).toInt64)))] H := hP
  have hD : va_D AA [(a 0, eTop (a 1) (a 3) (a 5) (a 6) uw), (a 1, eScr (a 2)), (a 2, eJ cy 12 fs), (o9, eJ cy 1 (vp_updL fx9 0 ((nI (nRun (fs t))).toInt64)))] := hD
  refine lv_goto (tgt := 15) hx hb dL_runs_9 (by decide) ?_
  refine lv_iconst (v := nI 0) hx hb dL_runs_15 (by decide) ?_
  exact hret _ _ _ _ _ () dL_runs_16 (⟨rfl, trivial⟩) (hP.sub [0, 1, 2, 3] rfl) (hD.sub [0, 1, 2, 3] (by decide) rfl) hS
set_option maxHeartbeats 4000000 in
set_option maxRecDepth 100000 in
theorem cx_L_runs (l : Launch) (hst : l.stackTraces = false) (D : va_G) (cy : Nat → ClassId) (sa : Nat → Nat) (sz : Nat) (a : Nat → Nat) (uw : Int32) (t : Int32) (o9 : Nat) (hn : ¬ pIn t 0 11) : Met l yL_runs wsL_runs ({ frames := 8, cells := 1, slots := 6, locals := 131 } : Room) (va_Pc [.ref (a 0), .int t, .ref o9] (gXw D (gT cy) sa [(a 0, eTop (a 1) (a 3) (a 5) (a 6) uw)] sz)) (va_Qi (fun (r9 : Int32) (_ : Unit) => r9 = nI 1) (fun _ _ => True) (fun q => sz ≤ q)) 1 6 (fun q => sz ≤ q) := by
  refine gH_x (cc := cL_runs) (maxL := 4) (hh := [(0, 9, 12, 13)]) (kx := nI 1) (by decide) rfl (Nat.le_of_ble_eq_true rfl) ?_
  intro pp ee ss mm bw mt cd QQ ls hfx hP hG hE hN hT hret hl
  obtain ⟨hx, hb, hml, hown, hts, hlocks⟩ := hfx
  have hown : ss.vm.findClass RL = some mm.cls := hown
  have hl : lv_has ls 4 [(0, .ref (a 0)), (1, .int t), (2, .ref o9)] := hl
  refine lv_aload_n hx hb dL_runs_0 rfl (lv_at hl 2 rfl) ?_
  refine lv_iconst (v := nI 0) hx hb dL_runs_1 (by decide) ?_
  refine lv_aload_n hx hb dL_runs_2 rfl (lv_at hl 0 rfl) ?_
  refine lv_iload_n hx hb dL_runs_3 rfl (lv_at hl 1 rfl) ?_
  refine gx_catch (own := RL) (name := xIA) (fun _ _ _ h => h) (vx_runV (As := [.int t]) (rest := [.int (nI 0), .ref o9]) ⟨hx, hb, hml, hown, hts⟩ (cx_X3_runs l hst D cy sa ss.heap.size (a 0) t hn) (cwV 1 hts gL_runs_X3_runs rfl rfl rfl (by decide +kernel) ⟨Nat.le_of_ble_eq_true rfl, Nat.le_of_ble_eq_true rfl⟩) (gpVY (ci := 3) (q0 := 0) hG hE (hP.sub [] rfl) hP rfl rfl) rfl rfl hl.1 rfl (lv_room (Nat.le_of_ble_eq_true rfl)) dL_runs_4 ⟨Nat.le_of_ble_eq_true rfl, Nat.le_of_ble_eq_true rfl⟩) hown [] ⟨0, 9, 12, 13⟩ [] (hT.trans rfl) (fun _ h9 => absurd h9 List.not_mem_nil) rfl (by decide) (hts (.classLink RL 13 xIA) (by decide +kernel)) (gcast hE.2.2.2.2.2.1) (fun H locs q9 hS => ?_)
  refine lv_astore_n (lv' := [(3, .ref q9), (0, .ref (a 0)), (1, .int t), (2, .ref o9)]) hx hb dL_runs_12 rfl hl (by decide) rfl (fun ls hl => ?_)
  refine lv_iconst (v := nI 1) hx hb dL_runs_13 (by decide) ?_
  exact hret _ _ _ _ dL_runs_14 hS
set_option maxHeartbeats 4000000 in
set_option maxRecDepth 100000 in
theorem c_L_way (l : Launch) (D : va_G) (cy : Nat → ClassId) (sz : Nat) (a q : Nat → Nat) (uw : Int32) (g : Nat → Option Nat) (J : Prop) (dc k : Int32) (i : Nat) (fs : Nat → Int64) (t : Nat) (L : List Int64) (f : Nat → Int64) (o9 : Nat) (fx9 : Nat → Int64) (hi : i < 2) (hg : g i = some (q 0)) (hJ : J) (ht9 : t < 12) (hf : hC L f) (hL : L.length ≤ 6) : Met l yL_way wsL_way ({ frames := 5, cells := 0, slots := 0, locals := 116 } : Room) (va_Pc [.ref (a 0), .int (nI i), .int (nI t), .ref o9] (gI D (gT cy) [(a 0, eTop (a 1) (a 3) (a 5) (a 6) uw), (a 5, eQ cy 2 g), (q 0, eCli (gb (J)) (q 1) (q 3) (q 5) (q 7) dc (q 8) (q 9) k), (a 1, eScr (a 2)), (a 2, eJ cy 12 fs), (q 5, eCch (q 6) (nI L.length)), (q 6, eJ cy 6 f), (o9, eJ cy 1 fx9)] sz)) (va_Qi (fun (r9 : Int32) (u : Unit) => r9 = nI 0 ∧ ((True))) (gO D (fun u : Unit => [(a 0, eTop (a 1) (a 3) (a 5) (a 6) uw), (a 5, eQ cy 2 g), (q 0, eCli (gb (J)) (q 1) (q 3) (q 5) (q 7) dc (q 8) (q 9) k), (a 1, eScr (a 2)), (a 2, eJ cy 12 fs), (q 5, eCch (q 6) (nI L.length)), (q 6, eJ cy 6 f), (o9, eJ cy 1 (vp_updL fx9 0 ((nI (wayO L (fs t))).toInt64)))]) (va_A [(a 0, eTop (a 1) (a 3) (a 5) (a 6) uw), (a 5, eQ cy 2 g), (q 0, eCli (gb (J)) (q 1) (q 3) (q 5) (q 7) dc (q 8) (q 9) k), (a 1, eScr (a 2)), (a 2, eJ cy 12 fs), (q 5, eCch (q 6) (nI L.length)), (q 6, eJ cy 6 f), (o9, eJ cy 1 fx9)] sz)) (va_A [(a 0, eTop (a 1) (a 3) (a 5) (a 6) uw), (a 5, eQ cy 2 g), (q 0, eCli (gb (J)) (q 1) (q 3) (q 5) (q 7) dc (q 8) (q 9) k), (a 1, eScr (a 2)), (a 2, eJ cy 12 fs), (q 5, eCch (q 6) (nI L.length)), (q 6, eJ cy 6 f), (o9, eJ cy 1 fx9)] sz)) 0 0 (va_A [(a 0, eTop (a 1) (a 3) (a 5) (a 6) uw), (a 5, eQ cy 2 g), (q 0, eCli (gb (J)) (q 1) (q 3) (q 5) (q 7) dc (q 8) (q 9) k), (a 1, eScr (a 2)), (a 2, eJ cy 12 fs), (q 5, eCch (q 6) (nI L.length)), (q 6, eJ cy 6 f), (o9, eJ cy 1 fx9)] sz) := by
  refine gH_i (cc := cL_way) (maxL := 5) (hh := [(0, 10, 13, 13), (0, 10, 17, 33)]) (by decide) rfl (Nat.le_of_ble_eq_true rfl) ?_
  intro pp ee ss mm bw mt cd QQ AA ls hfx hP hG hD hA hret hl
  have hS : va_S AA ss.heap ss.heap [] := va_S.rf
  obtain ⟨H, eH⟩ : ∃ H, H = ss.heap := ⟨_, rfl⟩
  obtain ⟨locs, eL⟩ : ∃ L : List Loc, L = [] := ⟨_, rfl⟩
  have hP : va_P D vwCl [(a 0, eTop (a 1) (a 3) (a 5) (a 6) uw), (a 5, eQ cy 2 g), (q 0, eCli (gb (J)) (q 1) (q 3) (q 5) (q 7) dc (q 8) (q 9) k), (a 1, eScr (a 2)), (a 2, eJ cy 12 fs), (q 5, eCch (q 6) (nI L.length)), (q 6, eJ cy 6 f), (o9, eJ cy 1 fx9)] H := by rw [eH]; exact hP
  have hS : va_S AA ss.heap H locs := by rw [eH, eL]; exact hS
  have goal : ∀ X Y, X = H → Y = locs → W pp l ee ({ frames := 5, cells := 0, slots := 0, locals := 116 } : Room) ss mm ([.ref (a 0), .int (nI i), .int (nI t), .ref o9] : List Value).toArray bw mt cd X Y 0 0 QQ (F0 mm 0 ls []) → W pp l ee ({ frames := 5, cells := 0, slots := 0, locals := 116 } : Room) ss mm ([.ref (a 0), .int (nI i), .int (nI t), .ref o9] : List Value).toArray bw mt cd ss.heap [] 0 0 QQ (F0 mm 0 ls []) := fun X Y hX hY h => by rw [hX, hY, eH, eL] at h; exact h
  refine goal H locs rfl rfl ?_
  clear goal eH eL
  obtain ⟨hx, hb, hml, hown, hts, hlocks⟩ := hfx
  have hown : ss.vm.findClass RL = some mm.cls := hown
  have hl : lv_has ls 5 [(0, .ref (a 0)), (1, .int (nI i)), (2, .int (nI t)), (3, .ref o9)] := hl
  refine lv_aload_n hx hb dL_way_0 rfl (lv_at hl 3 rfl) ?_
  refine lv_iconst (v := nI 0) hx hb dL_way_1 (by decide) ?_
  refine lv_aload_n hx hb dL_way_2 rfl (lv_at hl 0 rfl) ?_
  refine lv_iload_n hx hb dL_way_3 rfl (lv_at hl 1 rfl) ?_
  refine lv_iload_n hx hb dL_way_4 rfl (lv_at hl 2 rfl) ?_
  refine gc_Si (va_runV (As := [.int (nI i), .int (nI t)]) (rest := [.int (nI 0), .ref o9]) ⟨hx, hb, hml, hown, hts⟩ (c_X3_way l D cy a q uw g J dc k i fs t L f hi hg hJ ht9 hf hL) (cwV 2 hts gL_way_X3_way rfl rfl rfl (by decide +kernel) ⟨Nat.le_of_ble_eq_true rfl, Nat.le_of_ble_eq_true rfl⟩) (gpVR (ci := 3) (q0 := 0) hG (hP.sub [0, 1, 2, 3, 4, 5, 6] rfl) rfl rfl) rfl rfl hl.1 rfl (lv_room (Nat.le_of_ble_eq_true rfl)) dL_way_5 ⟨Nat.zero_le _, Nat.zero_le _⟩) ?_
  refine lv_i2l hx hb dL_way_8 rfl ?_
  refine g_last hx hb hG hP hD hS 7 1 rfl rfl (k := 0) (by omega) (by decide) dL_way_9 (fun H locs hP hD hS => ?_)
  have hP : va_P D vwCl [(a 0, eTop (a 1) (a 3) (a 5) (a 6) uw), (a 5, eQ cy 2 g), (q 0, eCli (gb (J)) (q 1) (q 3) (q 5) (q 7) dc (q 8) (q 9) k), (a 1, eScr (a 2)), (a 2, eJ cy 12 fs), (q 5, eCch (q 6) (nI L.length)), (q 6, eJ cy 6 f), (o9, eJ cy 1 (vp_updL fx9 0 ((nI (wayO L (fs t))).toInt64)))] H := hP
  have hD : va_D AA [(a 0, eTop (a 1) (a 3) (a 5) (a 6) uw), (a 5, eQ cy 2 g), (q 0, eCli (gb (J)) (q 1) (q 3) (q 5) (q 7) dc (q 8) (q 9) k), (a 1, eScr (a 2)), (a 2, eJ cy 12 fs), (q 5, eCch (q 6) (nI L.length)), (q 6, eJ cy 6 f), (o9, eJ cy 1 (vp_updL fx9 0 ((nI (wayO L (fs t))).toInt64)))] := hD
  refine lv_goto (tgt := 21) hx hb dL_way_10 (by decide) ?_
  refine lv_iconst (v := nI 0) hx hb dL_way_21 (by decide) ?_
  exact hret _ _ _ _ _ () dL_way_22 (⟨rfl, trivial⟩) (hP.sub [0, 1, 2, 3, 4, 5, 6, 7] rfl) (hD.sub [0, 1, 2, 3, 4, 5, 6, 7] (by decide) rfl) hS
set_option maxHeartbeats 4000000 in
set_option maxRecDepth 100000 in
theorem cx_L_way (l : Launch) (hst : l.stackTraces = false) (D : va_G) (cy : Nat → ClassId) (sa : Nat → Nat) (sz : Nat) (a : Nat → Nat) (uw : Int32) (i t : Int32) (o9 : Nat) (hn : ¬ (pIn i 0 1 ∧ pIn t 0 11)) : Met l yL_way wsL_way ({ frames := 8, cells := 1, slots := 6, locals := 132 } : Room) (va_Pc [.ref (a 0), .int i, .int t, .ref o9] (gXw D (gT cy) sa [(a 0, eTop (a 1) (a 3) (a 5) (a 6) uw)] sz)) (va_Qi (fun (r9 : Int32) (_ : Unit) => r9 = nI 1) (fun _ _ => True) (fun q => sz ≤ q)) 1 6 (fun q => sz ≤ q) := by
  refine gH_x (cc := cL_way) (maxL := 5) (hh := [(0, 10, 13, 13), (0, 10, 17, 33)]) (kx := nI 1) (by decide) rfl (Nat.le_of_ble_eq_true rfl) ?_
  intro pp ee ss mm bw mt cd QQ ls hfx hP hG hE hN hT hret hl
  obtain ⟨hx, hb, hml, hown, hts, hlocks⟩ := hfx
  have hown : ss.vm.findClass RL = some mm.cls := hown
  have hl : lv_has ls 5 [(0, .ref (a 0)), (1, .int i), (2, .int t), (3, .ref o9)] := hl
  refine lv_aload_n hx hb dL_way_0 rfl (lv_at hl 3 rfl) ?_
  refine lv_iconst (v := nI 0) hx hb dL_way_1 (by decide) ?_
  refine lv_aload_n hx hb dL_way_2 rfl (lv_at hl 0 rfl) ?_
  refine lv_iload_n hx hb dL_way_3 rfl (lv_at hl 1 rfl) ?_
  refine lv_iload_n hx hb dL_way_4 rfl (lv_at hl 2 rfl) ?_
  refine gx_catch (own := RL) (name := xIA) (fun _ _ _ h => h) (vx_runV (As := [.int i, .int t]) (rest := [.int (nI 0), .ref o9]) ⟨hx, hb, hml, hown, hts⟩ (cx_X3_way l hst D cy sa ss.heap.size (a 0) i t hn) (cwV 2 hts gL_way_X3_way rfl rfl rfl (by decide +kernel) ⟨Nat.le_of_ble_eq_true rfl, Nat.le_of_ble_eq_true rfl⟩) (gpVY (ci := 3) (q0 := 0) hG hE (hP.sub [] rfl) hP rfl rfl) rfl rfl hl.1 rfl (lv_room (Nat.le_of_ble_eq_true rfl)) dL_way_5 ⟨Nat.le_of_ble_eq_true rfl, Nat.le_of_ble_eq_true rfl⟩) hown [] ⟨0, 10, 13, 13⟩ [⟨0, 10, 17, 33⟩] (hT.trans rfl) (fun _ h9 => absurd h9 List.not_mem_nil) rfl (by decide) (hts (.classLink RL 13 xIA) (by decide +kernel)) (gcast hE.2.2.2.2.2.1) (fun H locs q9 hS => ?_)
  refine lv_astore (lv' := [(4, .ref q9), (0, .ref (a 0)), (1, .int i), (2, .int t), (3, .ref o9)]) hx hb dL_way_13 hl (by decide) rfl (fun ls hl => ?_)
  refine lv_iconst (v := nI 1) hx hb dL_way_15 (by decide) ?_
  exact hret _ _ _ _ dL_way_16 hS
set_option maxHeartbeats 4000000 in
set_option maxRecDepth 100000 in
theorem cx_L_way_s (l : Launch) (hst : l.stackTraces = false) (D : va_G) (cy : Nat → ClassId) (sa : Nat → Nat) (sz : Nat) (a q : Nat → Nat) (uw : Int32) (g : Nat → Option Nat) (J : Prop) (dc k : Int32) (i : Nat) (t : Nat) (o9 : Nat) (hi : i < 2) (hg : g i = some (q 0)) (hJ : ¬ J) (ht9 : t < 12) : Met l yL_way wsL_way ({ frames := 8, cells := 1, slots := 6, locals := 132 } : Room) (va_Pc [.ref (a 0), .int (nI i), .int (nI t), .ref o9] (gXw D (gT cy) sa [(a 0, eTop (a 1) (a 3) (a 5) (a 6) uw), (a 5, eQ cy 2 g), (q 0, eCli (gb (J)) (q 1) (q 3) (q 5) (q 7) dc (q 8) (q 9) k)] sz)) (va_Qi (fun (r9 : Int32) (_ : Unit) => r9 = nI 2) (fun _ _ => True) (fun q => sz ≤ q)) 1 6 (fun q => sz ≤ q) := by
  refine gH_x (cc := cL_way) (maxL := 5) (hh := [(0, 10, 13, 13), (0, 10, 17, 33)]) (kx := nI 2) (by decide) rfl (Nat.le_of_ble_eq_true rfl) ?_
  intro pp ee ss mm bw mt cd QQ ls hfx hP hG hE hN hT hret hl
  obtain ⟨hx, hb, hml, hown, hts, hlocks⟩ := hfx
  have hown : ss.vm.findClass RL = some mm.cls := hown
  have hl : lv_has ls 5 [(0, .ref (a 0)), (1, .int (nI i)), (2, .int (nI t)), (3, .ref o9)] := hl
  refine lv_aload_n hx hb dL_way_0 rfl (lv_at hl 3 rfl) ?_
  refine lv_iconst (v := nI 0) hx hb dL_way_1 (by decide) ?_
  refine lv_aload_n hx hb dL_way_2 rfl (lv_at hl 0 rfl) ?_
  refine lv_iload_n hx hb dL_way_3 rfl (lv_at hl 1 rfl) ?_
  refine lv_iload_n hx hb dL_way_4 rfl (lv_at hl 2 rfl) ?_
  refine gx_catch (own := RL) (name := xIS) (fun _ _ _ h => h) (vx_runV (As := [.int (nI i), .int (nI t)]) (rest := [.int (nI 0), .ref o9]) ⟨hx, hb, hml, hown, hts⟩ (cx_X3_way_s l hst D cy sa ss.heap.size a q uw g J dc k i t hi hg hJ ht9) (cwV 2 hts gL_way_X3_way rfl rfl rfl (by decide +kernel) ⟨Nat.le_of_ble_eq_true rfl, Nat.le_of_ble_eq_true rfl⟩) (gpVY (ci := 3) (q0 := 0) hG hE (hP.sub [0, 1, 2] rfl) hP rfl rfl) rfl rfl hl.1 rfl (lv_room (Nat.le_of_ble_eq_true rfl)) dL_way_5 ⟨Nat.le_of_ble_eq_true rfl, Nat.le_of_ble_eq_true rfl⟩) hown [⟨0, 10, 13, 13⟩] ⟨0, 10, 17, 33⟩ [] (hT.trans rfl) ((List.forall_mem_cons.mpr ⟨Or.inr ⟨by decide, xIA, hts (.classLink RL 13 xIA) (by decide +kernel), hN.1⟩, fun _ h9 => absurd h9 List.not_mem_nil⟩)) rfl (by decide) (hts (.classLink RL 33 xIS) (by decide +kernel)) (gcast hE.2.2.2.2.2.2.1) (fun H locs q9 hS => ?_)
  refine lv_astore (lv' := [(4, .ref q9), (0, .ref (a 0)), (1, .int (nI i)), (2, .int (nI t)), (3, .ref o9)]) hx hb dL_way_17 hl (by decide) rfl (fun ls hl => ?_)
  refine lv_iconst (v := nI 2) hx hb dL_way_19 (by decide) ?_
  exact hret _ _ _ _ dL_way_20 hS
set_option maxHeartbeats 4000000 in
set_option maxRecDepth 100000 in
theorem c_L_join (l : Launch) (D : va_G) (cy : Nat → ClassId) (sz : Nat) (a q : Nat → Nat) (uw : Int32) (g : Nat → Option Nat) (i : Nat) (J : Prop) (dc k no nc : Int32) (fs fo fc : Nat → Int64) (fd : Nat → Int32) (o9 : Nat) (fx9 : Nat → Int64) (hi : i < 2) (hg : g i = some (q 0)) : Met l yL_join wsL_join ({ frames := 3, cells := 0, slots := 0, locals := 63 } : Room) (va_Pc [.ref (a 0), .int (nI i), .ref o9] (gI D (gT cy) [(a 0, eTop (a 1) (a 3) (a 5) (a 6) uw), (a 5, eQ cy 2 g), (q 0, eCli (gb (J)) (q 1) (q 3) (q 5) (q 7) dc (q 8) (q 9) k), (q 1, eScr (q 2)), (q 2, eJ cy 12 fs), (q 3, eCch (q 4) no), (q 4, eJ cy 6 fo), (q 5, eCch (q 6) nc), (q 6, eJ cy 6 fc), (q 7, eI cy 12 fd), (o9, eJ cy 1 fx9)] sz)) (va_Qi (fun (r9 : Int32) (u : (Nat → Int64) × (Nat → Int32)) => r9 = nI 0 ∧ (((∀ k, k < 12 → u.1 k = 0) ∧ (∀ k, k < 12 → u.2 k = nI k)))) (gO D (fun u : (Nat → Int64) × (Nat → Int32) => [(a 0, eTop (a 1) (a 3) (a 5) (a 6) uw), (a 5, eQ cy 2 g), (q 0, eCli (gb (True)) (q 1) (q 3) (q 5) (q 7) (nI 12) (q 8) (q 9) (nI 0)), (q 1, eScr (q 2)), (q 2, eJ cy 12 u.1), (q 3, eCch (q 4) (nI 0)), (q 4, eJ cy 6 fo), (q 5, eCch (q 6) (nI 0)), (q 6, eJ cy 6 fc), (q 7, eI cy 12 u.2), (o9, eJ cy 1 (vp_updL fx9 0 ((nI 12).toInt64)))]) (va_A [(a 0, eTop (a 1) (a 3) (a 5) (a 6) uw), (a 5, eQ cy 2 g), (q 0, eCli (gb (J)) (q 1) (q 3) (q 5) (q 7) dc (q 8) (q 9) k), (q 1, eScr (q 2)), (q 2, eJ cy 12 fs), (q 3, eCch (q 4) no), (q 4, eJ cy 6 fo), (q 5, eCch (q 6) nc), (q 6, eJ cy 6 fc), (q 7, eI cy 12 fd), (o9, eJ cy 1 fx9)] sz)) (va_A [(a 0, eTop (a 1) (a 3) (a 5) (a 6) uw), (a 5, eQ cy 2 g), (q 0, eCli (gb (J)) (q 1) (q 3) (q 5) (q 7) dc (q 8) (q 9) k), (q 1, eScr (q 2)), (q 2, eJ cy 12 fs), (q 3, eCch (q 4) no), (q 4, eJ cy 6 fo), (q 5, eCch (q 6) nc), (q 6, eJ cy 6 fc), (q 7, eI cy 12 fd), (o9, eJ cy 1 fx9)] sz)) 0 0 (va_A [(a 0, eTop (a 1) (a 3) (a 5) (a 6) uw), (a 5, eQ cy 2 g), (q 0, eCli (gb (J)) (q 1) (q 3) (q 5) (q 7) dc (q 8) (q 9) k), (q 1, eScr (q 2)), (q 2, eJ cy 12 fs), (q 3, eCch (q 4) no), (q 4, eJ cy 6 fo), (q 5, eCch (q 6) nc), (q 6, eJ cy 6 fc), (q 7, eI cy 12 fd), (o9, eJ cy 1 fx9)] sz) := by
  refine gH_i (cc := cL_join) (maxL := 4) (hh := [(0, 9, 12, 13)]) (by decide) rfl (Nat.le_of_ble_eq_true rfl) ?_
  intro pp ee ss mm bw mt cd QQ AA ls hfx hP hG hD hA hret hl
  have hS : va_S AA ss.heap ss.heap [] := va_S.rf
  obtain ⟨H, eH⟩ : ∃ H, H = ss.heap := ⟨_, rfl⟩
  obtain ⟨locs, eL⟩ : ∃ L : List Loc, L = [] := ⟨_, rfl⟩
  have hP : va_P D vwCl [(a 0, eTop (a 1) (a 3) (a 5) (a 6) uw), (a 5, eQ cy 2 g), (q 0, eCli (gb (J)) (q 1) (q 3) (q 5) (q 7) dc (q 8) (q 9) k), (q 1, eScr (q 2)), (q 2, eJ cy 12 fs), (q 3, eCch (q 4) no), (q 4, eJ cy 6 fo), (q 5, eCch (q 6) nc), (q 6, eJ cy 6 fc), (q 7, eI cy 12 fd), (o9, eJ cy 1 fx9)] H := by rw [eH]; exact hP
  have hS : va_S AA ss.heap H locs := by rw [eH, eL]; exact hS
  have goal : ∀ X Y, X = H → Y = locs → W pp l ee ({ frames := 3, cells := 0, slots := 0, locals := 63 } : Room) ss mm ([.ref (a 0), .int (nI i), .ref o9] : List Value).toArray bw mt cd X Y 0 0 QQ (F0 mm 0 ls []) → W pp l ee ({ frames := 3, cells := 0, slots := 0, locals := 63 } : Room) ss mm ([.ref (a 0), .int (nI i), .ref o9] : List Value).toArray bw mt cd ss.heap [] 0 0 QQ (F0 mm 0 ls []) := fun X Y hX hY h => by rw [hX, hY, eH, eL] at h; exact h
  refine goal H locs rfl rfl ?_
  clear goal eH eL
  obtain ⟨hx, hb, hml, hown, hts, hlocks⟩ := hfx
  have hown : ss.vm.findClass RL = some mm.cls := hown
  have hl : lv_has ls 4 [(0, .ref (a 0)), (1, .int (nI i)), (2, .ref o9)] := hl
  refine lv_aload_n hx hb dL_join_0 rfl (lv_at hl 2 rfl) ?_
  refine lv_iconst (v := nI 0) hx hb dL_join_1 (by decide) ?_
  refine lv_aload_n hx hb dL_join_2 rfl (lv_at hl 0 rfl) ?_
  refine lv_iload_n hx hb dL_join_3 rfl (lv_at hl 1 rfl) ?_
  refine gc_Wi (wn := fun u => [(a 0, eTop (a 1) (a 3) (a 5) (a 6) uw), (a 5, eQ cy 2 g), (q 0, eCli (gb (True)) (q 1) (q 3) (q 5) (q 7) (nI 12) (q 8) (q 9) (nI 0)), (q 1, eScr (q 2)), (q 2, eJ cy 12 u.1), (q 3, eCch (q 4) (nI 0)), (q 4, eJ cy 6 fo), (q 5, eCch (q 6) (nI 0)), (q 6, eJ cy 6 fc), (q 7, eI cy 12 u.2), (o9, eJ cy 1 fx9)]) (wr := [(o9, eJ cy 1 fx9)]) (va_runV (As := [.int (nI i)]) (rest := [.int (nI 0), .ref o9]) ⟨hx, hb, hml, hown, hts⟩ (c_X3_join l D cy H.size a q uw g i J dc k no nc fs fo fc fd hi hg) (cwV 1 hts gL_join_X3_join rfl rfl rfl (by decide +kernel) ⟨Nat.le_of_ble_eq_true rfl, Nat.le_of_ble_eq_true rfl⟩) (gpVI (ci := 3) (q0 := 0) hG (hP.sub [0, 1, 2, 3, 4, 5, 6, 7, 8, 9] rfl) (hD.sub [0, 1, 2, 3, 4, 5, 6, 7, 8, 9] (by decide) rfl) rfl rfl) rfl rfl hl.1 rfl (lv_room (Nat.le_of_ble_eq_true rfl)) dL_join_4 ⟨Nat.zero_le _, Nat.zero_le _⟩) hP hD hS hA [0, 1, 2, 3, 4, 5, 6, 7, 8, 9] [10] [1, 2, 3, 4, 5, 6, 7, 8, 9, 10, 0] rfl rfl (by decide) (by decide) (fun _ => rfl) (by decide) (fun r_4 u9 H locs hw_4 hP hD hS => ?_)
  obtain ⟨fs2_4, fd2_4⟩ := u9
  have hP : va_P D vwCl [(a 0, eTop (a 1) (a 3) (a 5) (a 6) uw), (a 5, eQ cy 2 g), (q 0, eCli (gb (True)) (q 1) (q 3) (q 5) (q 7) (nI 12) (q 8) (q 9) (nI 0)), (q 1, eScr (q 2)), (q 2, eJ cy 12 fs2_4), (q 3, eCch (q 4) (nI 0)), (q 4, eJ cy 6 fo), (q 5, eCch (q 6) (nI 0)), (q 6, eJ cy 6 fc), (q 7, eI cy 12 fd2_4), (o9, eJ cy 1 fx9)] H := hP
  have hD : va_D AA [(a 0, eTop (a 1) (a 3) (a 5) (a 6) uw), (a 5, eQ cy 2 g), (q 0, eCli (gb (True)) (q 1) (q 3) (q 5) (q 7) (nI 12) (q 8) (q 9) (nI 0)), (q 1, eScr (q 2)), (q 2, eJ cy 12 fs2_4), (q 3, eCch (q 4) (nI 0)), (q 4, eJ cy 6 fo), (q 5, eCch (q 6) (nI 0)), (q 6, eJ cy 6 fc), (q 7, eI cy 12 fd2_4), (o9, eJ cy 1 fx9)] := hD
  obtain ⟨hr_4, hw_4⟩ := hw_4
  refine g_ti (y := nI 12) hr_4 ?_
  have hw_4 : (∀ k, k < 12 → fs2_4 k = 0) ∧ (∀ k, k < 12 → fd2_4 k = nI k) := hw_4
  refine lv_i2l hx hb dL_join_7 rfl ?_
  refine g_last hx hb hG hP hD hS 10 1 rfl rfl (k := 0) (by omega) (by decide) dL_join_8 (fun H locs hP hD hS => ?_)
  have hP : va_P D vwCl [(a 0, eTop (a 1) (a 3) (a 5) (a 6) uw), (a 5, eQ cy 2 g), (q 0, eCli (gb (True)) (q 1) (q 3) (q 5) (q 7) (nI 12) (q 8) (q 9) (nI 0)), (q 1, eScr (q 2)), (q 2, eJ cy 12 fs2_4), (q 3, eCch (q 4) (nI 0)), (q 4, eJ cy 6 fo), (q 5, eCch (q 6) (nI 0)), (q 6, eJ cy 6 fc), (q 7, eI cy 12 fd2_4), (o9, eJ cy 1 (vp_updL fx9 0 ((nI 12).toInt64)))] H := hP
  have hD : va_D AA [(a 0, eTop (a 1) (a 3) (a 5) (a 6) uw), (a 5, eQ cy 2 g), (q 0, eCli (gb (True)) (q 1) (q 3) (q 5) (q 7) (nI 12) (q 8) (q 9) (nI 0)), (q 1, eScr (q 2)), (q 2, eJ cy 12 fs2_4), (q 3, eCch (q 4) (nI 0)), (q 4, eJ cy 6 fo), (q 5, eCch (q 6) (nI 0)), (q 6, eJ cy 6 fc), (q 7, eI cy 12 fd2_4), (o9, eJ cy 1 (vp_updL fx9 0 ((nI 12).toInt64)))] := hD
  refine lv_goto (tgt := 15) hx hb dL_join_9 (by decide) ?_
  refine lv_iconst (v := nI 0) hx hb dL_join_15 (by decide) ?_
  exact hret _ _ _ _ _ ⟨fs2_4, fd2_4⟩ dL_join_16 (⟨rfl, hw_4⟩) (hP.sub [0, 1, 2, 3, 4, 5, 6, 7, 8, 9, 10] rfl) (hD.sub [0, 1, 2, 3, 4, 5, 6, 7, 8, 9, 10] (by decide) rfl) hS
set_option maxHeartbeats 4000000 in
set_option maxRecDepth 100000 in
theorem cx_L_join (l : Launch) (hst : l.stackTraces = false) (D : va_G) (cy : Nat → ClassId) (sa : Nat → Nat) (sz : Nat) (a : Nat → Nat) (uw : Int32) (i : Int32) (o9 : Nat) (hn : ¬ pIn i 0 1) : Met l yL_join wsL_join ({ frames := 8, cells := 1, slots := 6, locals := 131 } : Room) (va_Pc [.ref (a 0), .int i, .ref o9] (gXw D (gT cy) sa [(a 0, eTop (a 1) (a 3) (a 5) (a 6) uw)] sz)) (va_Qi (fun (r9 : Int32) (_ : Unit) => r9 = nI 1) (fun _ _ => True) (fun q => sz ≤ q)) 1 6 (fun q => sz ≤ q) := by
  refine gH_x (cc := cL_join) (maxL := 4) (hh := [(0, 9, 12, 13)]) (kx := nI 1) (by decide) rfl (Nat.le_of_ble_eq_true rfl) ?_
  intro pp ee ss mm bw mt cd QQ ls hfx hP hG hE hN hT hret hl
  obtain ⟨hx, hb, hml, hown, hts, hlocks⟩ := hfx
  have hown : ss.vm.findClass RL = some mm.cls := hown
  have hl : lv_has ls 4 [(0, .ref (a 0)), (1, .int i), (2, .ref o9)] := hl
  refine lv_aload_n hx hb dL_join_0 rfl (lv_at hl 2 rfl) ?_
  refine lv_iconst (v := nI 0) hx hb dL_join_1 (by decide) ?_
  refine lv_aload_n hx hb dL_join_2 rfl (lv_at hl 0 rfl) ?_
  refine lv_iload_n hx hb dL_join_3 rfl (lv_at hl 1 rfl) ?_
  refine gx_catch (own := RL) (name := xIA) (fun _ _ _ h => h) (vx_runV (As := [.int i]) (rest := [.int (nI 0), .ref o9]) ⟨hx, hb, hml, hown, hts⟩ (cx_X3_join l hst D cy sa ss.heap.size (a 0) i hn) (cwV 1 hts gL_join_X3_join rfl rfl rfl (by decide +kernel) ⟨Nat.le_of_ble_eq_true rfl, Nat.le_of_ble_eq_true rfl⟩) (gpVY (ci := 3) (q0 := 0) hG hE (hP.sub [] rfl) hP rfl rfl) rfl rfl hl.1 rfl (lv_room (Nat.le_of_ble_eq_true rfl)) dL_join_4 ⟨Nat.le_of_ble_eq_true rfl, Nat.le_of_ble_eq_true rfl⟩) hown [] ⟨0, 9, 12, 13⟩ [] (hT.trans rfl) (fun _ h9 => absurd h9 List.not_mem_nil) rfl (by decide) (hts (.classLink RL 13 xIA) (by decide +kernel)) (gcast hE.2.2.2.2.2.1) (fun H locs q9 hS => ?_)
  refine lv_astore_n (lv' := [(3, .ref q9), (0, .ref (a 0)), (1, .int i), (2, .ref o9)]) hx hb dL_join_12 rfl hl (by decide) rfl (fun ls hl => ?_)
  refine lv_iconst (v := nI 1) hx hb dL_join_13 (by decide) ?_
  exact hret _ _ _ _ dL_join_14 hS
set_option maxHeartbeats 4000000 in
set_option maxRecDepth 100000 in
theorem c_L_ask (l : Launch) (D : va_G) (cy : Nat → ClassId) (sz : Nat) (a q : Nat → Nat) (uw : Int32) (g : Nat → Option Nat) (i : Nat) (fs : Nat → Int64) (fw : Nat → Int32) (J : Prop) (L : List Nat) (fd : Nat → Int32) (C : List Int64) (fc : Nat → Int64) (ft : Nat → Int32) (fm : Nat → Int64) (b : Nat) (o9 : Nat) (fx9 : Nat → Int64) (hi : i < 2) (hg : g i = some (q 0)) (hJ : J) (hL : hN L fd) (ho : okD L) (hC1 : hC C fc) (hC6 : C.length ≤ 6) (hb9 : b ≤ 300) : Met l yL_ask wsL_ask ({ frames := 6, cells := 0, slots := 0, locals := 146 } : Room) (va_Pc [.ref (a 0), .int (nI i), .int (nI b), .ref o9] (gI D (gT cy) [(a 0, eTop (a 1) (a 3) (a 5) (a 6) uw), (a 1, eScr (a 2)), (a 2, eJ cy 12 fs), (a 6, eI cy 5 fw), (q 0, eCli (gb (J)) (q 1) (q 3) (q 5) (q 7) (nI L.length) (q 8) (q 9) (nI 0)), (q 5, eCch (q 6) (nI C.length)), (q 6, eJ cy 6 fc), (q 7, eI cy 12 fd), (q 8, eI cy 12 ft), (q 9, eJ cy 12 fm), (a 5, eQ cy 2 g), (o9, eJ cy 1 fx9)] sz)) (va_Qi (fun (r9 : Int32) (u : (List Nat) × (Nat → Int32) × (List (Nat × Int64)) × (Nat → Int32) × (Nat → Int64) × (List Int64) × (Nat → Int64) × Nat × (Nat → Int32)) => r9 = nI 0 ∧ ((askF fs L [] C b fw = (u.1, u.2.2.1, u.2.2.2.2.2.1, u.2.2.2.2.2.2.2.1, u.2.2.2.2.2.2.2.2) ∧ hN u.1 u.2.1 ∧ hM u.2.2.1 u.2.2.2.1 u.2.2.2.2.1 ∧ okM u.2.2.1 ∧ u.2.2.1.length ≤ 12 ∧ hC u.2.2.2.2.2.1 u.2.2.2.2.2.2.1 ∧ u.2.2.2.2.2.1.length ≤ 6 ∧ u.2.2.2.2.2.2.2.1 ≤ b ∧ okD u.1))) (gO D (fun u : (List Nat) × (Nat → Int32) × (List (Nat × Int64)) × (Nat → Int32) × (Nat → Int64) × (List Int64) × (Nat → Int64) × Nat × (Nat → Int32) => [(a 0, eTop (a 1) (a 3) (a 5) (a 6) (uw + nI (b - u.2.2.2.2.2.2.2.1))), (a 1, eScr (a 2)), (a 2, eJ cy 12 fs), (a 6, eI cy 5 u.2.2.2.2.2.2.2.2), (q 0, eCli (gb (J)) (q 1) (q 3) (q 5) (q 7) (nI u.1.length) (q 8) (q 9) (nI u.2.2.1.length)), (q 5, eCch (q 6) (nI u.2.2.2.2.2.1.length)), (q 6, eJ cy 6 u.2.2.2.2.2.2.1), (q 7, eI cy 12 u.2.1), (q 8, eI cy 12 u.2.2.2.1), (q 9, eJ cy 12 u.2.2.2.2.1), (a 5, eQ cy 2 g), (o9, eJ cy 1 (vp_updL fx9 0 ((nI u.2.2.1.length).toInt64)))]) (va_A [(a 0, eTop (a 1) (a 3) (a 5) (a 6) uw), (a 1, eScr (a 2)), (a 2, eJ cy 12 fs), (a 6, eI cy 5 fw), (q 0, eCli (gb (J)) (q 1) (q 3) (q 5) (q 7) (nI L.length) (q 8) (q 9) (nI 0)), (q 5, eCch (q 6) (nI C.length)), (q 6, eJ cy 6 fc), (q 7, eI cy 12 fd), (q 8, eI cy 12 ft), (q 9, eJ cy 12 fm), (a 5, eQ cy 2 g), (o9, eJ cy 1 fx9)] sz)) (va_A [(a 0, eTop (a 1) (a 3) (a 5) (a 6) uw), (a 1, eScr (a 2)), (a 2, eJ cy 12 fs), (a 6, eI cy 5 fw), (q 0, eCli (gb (J)) (q 1) (q 3) (q 5) (q 7) (nI L.length) (q 8) (q 9) (nI 0)), (q 5, eCch (q 6) (nI C.length)), (q 6, eJ cy 6 fc), (q 7, eI cy 12 fd), (q 8, eI cy 12 ft), (q 9, eJ cy 12 fm), (a 5, eQ cy 2 g), (o9, eJ cy 1 fx9)] sz)) 0 0 (va_A [(a 0, eTop (a 1) (a 3) (a 5) (a 6) uw), (a 1, eScr (a 2)), (a 2, eJ cy 12 fs), (a 6, eI cy 5 fw), (q 0, eCli (gb (J)) (q 1) (q 3) (q 5) (q 7) (nI L.length) (q 8) (q 9) (nI 0)), (q 5, eCch (q 6) (nI C.length)), (q 6, eJ cy 6 fc), (q 7, eI cy 12 fd), (q 8, eI cy 12 ft), (q 9, eJ cy 12 fm), (a 5, eQ cy 2 g), (o9, eJ cy 1 fx9)] sz) := by
  refine gH_i (cc := cL_ask) (maxL := 5) (hh := [(0, 10, 13, 13), (0, 10, 17, 33)]) (by decide) rfl (Nat.le_of_ble_eq_true rfl) ?_
  intro pp ee ss mm bw mt cd QQ AA ls hfx hP hG hD hA hret hl
  have hS : va_S AA ss.heap ss.heap [] := va_S.rf
  obtain ⟨H, eH⟩ : ∃ H, H = ss.heap := ⟨_, rfl⟩
  obtain ⟨locs, eL⟩ : ∃ L : List Loc, L = [] := ⟨_, rfl⟩
  have hP : va_P D vwCl [(a 0, eTop (a 1) (a 3) (a 5) (a 6) uw), (a 1, eScr (a 2)), (a 2, eJ cy 12 fs), (a 6, eI cy 5 fw), (q 0, eCli (gb (J)) (q 1) (q 3) (q 5) (q 7) (nI L.length) (q 8) (q 9) (nI 0)), (q 5, eCch (q 6) (nI C.length)), (q 6, eJ cy 6 fc), (q 7, eI cy 12 fd), (q 8, eI cy 12 ft), (q 9, eJ cy 12 fm), (a 5, eQ cy 2 g), (o9, eJ cy 1 fx9)] H := by rw [eH]; exact hP
  have hS : va_S AA ss.heap H locs := by rw [eH, eL]; exact hS
  have goal : ∀ X Y, X = H → Y = locs → W pp l ee ({ frames := 6, cells := 0, slots := 0, locals := 146 } : Room) ss mm ([.ref (a 0), .int (nI i), .int (nI b), .ref o9] : List Value).toArray bw mt cd X Y 0 0 QQ (F0 mm 0 ls []) → W pp l ee ({ frames := 6, cells := 0, slots := 0, locals := 146 } : Room) ss mm ([.ref (a 0), .int (nI i), .int (nI b), .ref o9] : List Value).toArray bw mt cd ss.heap [] 0 0 QQ (F0 mm 0 ls []) := fun X Y hX hY h => by rw [hX, hY, eH, eL] at h; exact h
  refine goal H locs rfl rfl ?_
  clear goal eH eL
  obtain ⟨hx, hb, hml, hown, hts, hlocks⟩ := hfx
  have hown : ss.vm.findClass RL = some mm.cls := hown
  have hl : lv_has ls 5 [(0, .ref (a 0)), (1, .int (nI i)), (2, .int (nI b)), (3, .ref o9)] := hl
  refine lv_aload_n hx hb dL_ask_0 rfl (lv_at hl 3 rfl) ?_
  refine lv_iconst (v := nI 0) hx hb dL_ask_1 (by decide) ?_
  refine lv_aload_n hx hb dL_ask_2 rfl (lv_at hl 0 rfl) ?_
  refine lv_iload_n hx hb dL_ask_3 rfl (lv_at hl 1 rfl) ?_
  refine lv_iload_n hx hb dL_ask_4 rfl (lv_at hl 2 rfl) ?_
  refine gc_Wi (wn := fun u => [(a 0, eTop (a 1) (a 3) (a 5) (a 6) (uw + nI (b - u.2.2.2.2.2.2.2.1))), (a 1, eScr (a 2)), (a 2, eJ cy 12 fs), (a 6, eI cy 5 u.2.2.2.2.2.2.2.2), (q 0, eCli (gb (J)) (q 1) (q 3) (q 5) (q 7) (nI u.1.length) (q 8) (q 9) (nI u.2.2.1.length)), (q 5, eCch (q 6) (nI u.2.2.2.2.2.1.length)), (q 6, eJ cy 6 u.2.2.2.2.2.2.1), (q 7, eI cy 12 u.2.1), (q 8, eI cy 12 u.2.2.2.1), (q 9, eJ cy 12 u.2.2.2.2.1), (a 5, eQ cy 2 g), (o9, eJ cy 1 fx9)]) (wr := [(o9, eJ cy 1 fx9)]) (va_runV (As := [.int (nI i), .int (nI b)]) (rest := [.int (nI 0), .ref o9]) ⟨hx, hb, hml, hown, hts⟩ (c_X3_ask l D cy H.size a q uw g i fs fw J L fd C fc ft fm b hi hg hJ hL ho hC1 hC6 hb9) (cwV 2 hts gL_ask_X3_ask rfl rfl rfl (by decide +kernel) ⟨Nat.le_of_ble_eq_true rfl, Nat.le_of_ble_eq_true rfl⟩) (gpVI (ci := 3) (q0 := 0) hG (hP.sub [0, 1, 2, 3, 4, 5, 6, 7, 8, 9, 10] rfl) (hD.sub [0, 1, 2, 3, 4, 5, 6, 7, 8, 9, 10] (by decide) rfl) rfl rfl) rfl rfl hl.1 rfl (lv_room (Nat.le_of_ble_eq_true rfl)) dL_ask_5 ⟨Nat.zero_le _, Nat.zero_le _⟩) hP hD hS hA [0, 1, 2, 3, 4, 5, 6, 7, 8, 9, 10] [11] [1, 2, 3, 4, 5, 6, 7, 8, 9, 10, 11, 0] rfl rfl (by decide) (by decide) (fun _ => rfl) (by decide) (fun r_5 u9 H locs hw_5 hP hD hS => ?_)
  obtain ⟨L2_5, fd2_5, M2_5, ft2_5, fm2_5, C2_5, fc2_5, left2_5, fw2_5⟩ := u9
  have hP : va_P D vwCl [(a 0, eTop (a 1) (a 3) (a 5) (a 6) (uw + nI (b - left2_5))), (a 1, eScr (a 2)), (a 2, eJ cy 12 fs), (a 6, eI cy 5 fw2_5), (q 0, eCli (gb (J)) (q 1) (q 3) (q 5) (q 7) (nI L2_5.length) (q 8) (q 9) (nI M2_5.length)), (q 5, eCch (q 6) (nI C2_5.length)), (q 6, eJ cy 6 fc2_5), (q 7, eI cy 12 fd2_5), (q 8, eI cy 12 ft2_5), (q 9, eJ cy 12 fm2_5), (a 5, eQ cy 2 g), (o9, eJ cy 1 fx9)] H := hP
  have hD : va_D AA [(a 0, eTop (a 1) (a 3) (a 5) (a 6) (uw + nI (b - left2_5))), (a 1, eScr (a 2)), (a 2, eJ cy 12 fs), (a 6, eI cy 5 fw2_5), (q 0, eCli (gb (J)) (q 1) (q 3) (q 5) (q 7) (nI L2_5.length) (q 8) (q 9) (nI M2_5.length)), (q 5, eCch (q 6) (nI C2_5.length)), (q 6, eJ cy 6 fc2_5), (q 7, eI cy 12 fd2_5), (q 8, eI cy 12 ft2_5), (q 9, eJ cy 12 fm2_5), (a 5, eQ cy 2 g), (o9, eJ cy 1 fx9)] := hD
  obtain ⟨hr_5, hw_5⟩ := hw_5
  refine g_ti (y := nI M2_5.length) hr_5 ?_
  have hw_5 : askF fs L [] C b fw = (L2_5, M2_5, C2_5, left2_5, fw2_5) ∧ hN L2_5 fd2_5 ∧ hM M2_5 ft2_5 fm2_5 ∧ okM M2_5 ∧ M2_5.length ≤ 12 ∧ hC C2_5 fc2_5 ∧ C2_5.length ≤ 6 ∧ left2_5 ≤ b ∧ okD L2_5 := hw_5
  refine lv_i2l hx hb dL_ask_8 rfl ?_
  refine g_last hx hb hG hP hD hS 11 1 rfl rfl (k := 0) (by omega) (by decide) dL_ask_9 (fun H locs hP hD hS => ?_)
  have hP : va_P D vwCl [(a 0, eTop (a 1) (a 3) (a 5) (a 6) (uw + nI (b - left2_5))), (a 1, eScr (a 2)), (a 2, eJ cy 12 fs), (a 6, eI cy 5 fw2_5), (q 0, eCli (gb (J)) (q 1) (q 3) (q 5) (q 7) (nI L2_5.length) (q 8) (q 9) (nI M2_5.length)), (q 5, eCch (q 6) (nI C2_5.length)), (q 6, eJ cy 6 fc2_5), (q 7, eI cy 12 fd2_5), (q 8, eI cy 12 ft2_5), (q 9, eJ cy 12 fm2_5), (a 5, eQ cy 2 g), (o9, eJ cy 1 (vp_updL fx9 0 ((nI M2_5.length).toInt64)))] H := hP
  have hD : va_D AA [(a 0, eTop (a 1) (a 3) (a 5) (a 6) (uw + nI (b - left2_5))), (a 1, eScr (a 2)), (a 2, eJ cy 12 fs), (a 6, eI cy 5 fw2_5), (q 0, eCli (gb (J)) (q 1) (q 3) (q 5) (q 7) (nI L2_5.length) (q 8) (q 9) (nI M2_5.length)), (q 5, eCch (q 6) (nI C2_5.length)), (q 6, eJ cy 6 fc2_5), (q 7, eI cy 12 fd2_5), (q 8, eI cy 12 ft2_5), (q 9, eJ cy 12 fm2_5), (a 5, eQ cy 2 g), (o9, eJ cy 1 (vp_updL fx9 0 ((nI M2_5.length).toInt64)))] := hD
  refine lv_goto (tgt := 21) hx hb dL_ask_10 (by decide) ?_
  refine lv_iconst (v := nI 0) hx hb dL_ask_21 (by decide) ?_
  exact hret _ _ _ _ _ ⟨L2_5, fd2_5, M2_5, ft2_5, fm2_5, C2_5, fc2_5, left2_5, fw2_5⟩ dL_ask_22 (⟨rfl, hw_5⟩) (hP.sub [0, 1, 2, 3, 4, 5, 6, 7, 8, 9, 10, 11] rfl) (hD.sub [0, 1, 2, 3, 4, 5, 6, 7, 8, 9, 10, 11] (by decide) rfl) hS
set_option maxHeartbeats 4000000 in
set_option maxRecDepth 100000 in
theorem cx_L_ask (l : Launch) (hst : l.stackTraces = false) (D : va_G) (cy : Nat → ClassId) (sa : Nat → Nat) (sz : Nat) (a : Nat → Nat) (uw : Int32) (i b : Int32) (o9 : Nat) (hn : ¬ (pIn i 0 1 ∧ pIn b 0 300)) : Met l yL_ask wsL_ask ({ frames := 8, cells := 1, slots := 6, locals := 132 } : Room) (va_Pc [.ref (a 0), .int i, .int b, .ref o9] (gXw D (gT cy) sa [(a 0, eTop (a 1) (a 3) (a 5) (a 6) uw)] sz)) (va_Qi (fun (r9 : Int32) (_ : Unit) => r9 = nI 1) (fun _ _ => True) (fun q => sz ≤ q)) 1 6 (fun q => sz ≤ q) := by
  refine gH_x (cc := cL_ask) (maxL := 5) (hh := [(0, 10, 13, 13), (0, 10, 17, 33)]) (kx := nI 1) (by decide) rfl (Nat.le_of_ble_eq_true rfl) ?_
  intro pp ee ss mm bw mt cd QQ ls hfx hP hG hE hN hT hret hl
  obtain ⟨hx, hb, hml, hown, hts, hlocks⟩ := hfx
  have hown : ss.vm.findClass RL = some mm.cls := hown
  have hl : lv_has ls 5 [(0, .ref (a 0)), (1, .int i), (2, .int b), (3, .ref o9)] := hl
  refine lv_aload_n hx hb dL_ask_0 rfl (lv_at hl 3 rfl) ?_
  refine lv_iconst (v := nI 0) hx hb dL_ask_1 (by decide) ?_
  refine lv_aload_n hx hb dL_ask_2 rfl (lv_at hl 0 rfl) ?_
  refine lv_iload_n hx hb dL_ask_3 rfl (lv_at hl 1 rfl) ?_
  refine lv_iload_n hx hb dL_ask_4 rfl (lv_at hl 2 rfl) ?_
  refine gx_catch (own := RL) (name := xIA) (fun _ _ _ h => h) (vx_runV (As := [.int i, .int b]) (rest := [.int (nI 0), .ref o9]) ⟨hx, hb, hml, hown, hts⟩ (cx_X3_ask l hst D cy sa ss.heap.size (a 0) i b hn) (cwV 2 hts gL_ask_X3_ask rfl rfl rfl (by decide +kernel) ⟨Nat.le_of_ble_eq_true rfl, Nat.le_of_ble_eq_true rfl⟩) (gpVY (ci := 3) (q0 := 0) hG hE (hP.sub [] rfl) hP rfl rfl) rfl rfl hl.1 rfl (lv_room (Nat.le_of_ble_eq_true rfl)) dL_ask_5 ⟨Nat.le_of_ble_eq_true rfl, Nat.le_of_ble_eq_true rfl⟩) hown [] ⟨0, 10, 13, 13⟩ [⟨0, 10, 17, 33⟩] (hT.trans rfl) (fun _ h9 => absurd h9 List.not_mem_nil) rfl (by decide) (hts (.classLink RL 13 xIA) (by decide +kernel)) (gcast hE.2.2.2.2.2.1) (fun H locs q9 hS => ?_)
  refine lv_astore (lv' := [(4, .ref q9), (0, .ref (a 0)), (1, .int i), (2, .int b), (3, .ref o9)]) hx hb dL_ask_13 hl (by decide) rfl (fun ls hl => ?_)
  refine lv_iconst (v := nI 1) hx hb dL_ask_15 (by decide) ?_
  exact hret _ _ _ _ dL_ask_16 hS
set_option maxHeartbeats 4000000 in
set_option maxRecDepth 100000 in
theorem cx_L_ask_s (l : Launch) (hst : l.stackTraces = false) (D : va_G) (cy : Nat → ClassId) (sa : Nat → Nat) (sz : Nat) (a q : Nat → Nat) (uw : Int32) (g : Nat → Option Nat) (J : Prop) (dc k : Int32) (i : Nat) (b : Nat) (o9 : Nat) (hi : i < 2) (hg : g i = some (q 0)) (hJ : ¬ J) (hb9 : b ≤ 300) : Met l yL_ask wsL_ask ({ frames := 8, cells := 1, slots := 6, locals := 132 } : Room) (va_Pc [.ref (a 0), .int (nI i), .int (nI b), .ref o9] (gXw D (gT cy) sa [(a 0, eTop (a 1) (a 3) (a 5) (a 6) uw), (a 5, eQ cy 2 g), (q 0, eCli (gb (J)) (q 1) (q 3) (q 5) (q 7) dc (q 8) (q 9) k)] sz)) (va_Qi (fun (r9 : Int32) (_ : Unit) => r9 = nI 2) (fun _ _ => True) (fun q => sz ≤ q)) 1 6 (fun q => sz ≤ q) := by
  refine gH_x (cc := cL_ask) (maxL := 5) (hh := [(0, 10, 13, 13), (0, 10, 17, 33)]) (kx := nI 2) (by decide) rfl (Nat.le_of_ble_eq_true rfl) ?_
  intro pp ee ss mm bw mt cd QQ ls hfx hP hG hE hN hT hret hl
  obtain ⟨hx, hb, hml, hown, hts, hlocks⟩ := hfx
  have hown : ss.vm.findClass RL = some mm.cls := hown
  have hl : lv_has ls 5 [(0, .ref (a 0)), (1, .int (nI i)), (2, .int (nI b)), (3, .ref o9)] := hl
  refine lv_aload_n hx hb dL_ask_0 rfl (lv_at hl 3 rfl) ?_
  refine lv_iconst (v := nI 0) hx hb dL_ask_1 (by decide) ?_
  refine lv_aload_n hx hb dL_ask_2 rfl (lv_at hl 0 rfl) ?_
  refine lv_iload_n hx hb dL_ask_3 rfl (lv_at hl 1 rfl) ?_
  refine lv_iload_n hx hb dL_ask_4 rfl (lv_at hl 2 rfl) ?_
  refine gx_catch (own := RL) (name := xIS) (fun _ _ _ h => h) (vx_runV (As := [.int (nI i), .int (nI b)]) (rest := [.int (nI 0), .ref o9]) ⟨hx, hb, hml, hown, hts⟩ (cx_X3_ask_s l hst D cy sa ss.heap.size a q uw g J dc k i b hi hg hJ hb9) (cwV 2 hts gL_ask_X3_ask rfl rfl rfl (by decide +kernel) ⟨Nat.le_of_ble_eq_true rfl, Nat.le_of_ble_eq_true rfl⟩) (gpVY (ci := 3) (q0 := 0) hG hE (hP.sub [0, 1, 2] rfl) hP rfl rfl) rfl rfl hl.1 rfl (lv_room (Nat.le_of_ble_eq_true rfl)) dL_ask_5 ⟨Nat.le_of_ble_eq_true rfl, Nat.le_of_ble_eq_true rfl⟩) hown [⟨0, 10, 13, 13⟩] ⟨0, 10, 17, 33⟩ [] (hT.trans rfl) ((List.forall_mem_cons.mpr ⟨Or.inr ⟨by decide, xIA, hts (.classLink RL 13 xIA) (by decide +kernel), hN.1⟩, fun _ h9 => absurd h9 List.not_mem_nil⟩)) rfl (by decide) (hts (.classLink RL 33 xIS) (by decide +kernel)) (gcast hE.2.2.2.2.2.2.1) (fun H locs q9 hS => ?_)
  refine lv_astore (lv' := [(4, .ref q9), (0, .ref (a 0)), (1, .int (nI i)), (2, .int (nI b)), (3, .ref o9)]) hx hb dL_ask_17 hl (by decide) rfl (fun ls hl => ?_)
  refine lv_iconst (v := nI 2) hx hb dL_ask_19 (by decide) ?_
  exact hret _ _ _ _ dL_ask_20 hS
set_option maxHeartbeats 4000000 in
set_option maxRecDepth 100000 in
theorem cx_L_ask_m (l : Launch) (hst : l.stackTraces = false) (D : va_G) (cy : Nat → ClassId) (sa : Nat → Nat) (sz : Nat) (a q : Nat → Nat) (uw : Int32) (g : Nat → Option Nat) (J : Prop) (dc : Int32) (n i b : Nat) (o9 : Nat) (hi : i < 2) (hg : g i = some (q 0)) (hJ : J) (hb9 : b ≤ 300) (hn : 0 < n ∧ n ≤ 12) : Met l yL_ask wsL_ask ({ frames := 8, cells := 1, slots := 6, locals := 132 } : Room) (va_Pc [.ref (a 0), .int (nI i), .int (nI b), .ref o9] (gXw D (gT cy) sa [(a 0, eTop (a 1) (a 3) (a 5) (a 6) uw), (a 5, eQ cy 2 g), (q 0, eCli (gb (J)) (q 1) (q 3) (q 5) (q 7) dc (q 8) (q 9) (nI n))] sz)) (va_Qi (fun (r9 : Int32) (_ : Unit) => r9 = nI 2) (fun _ _ => True) (fun q => sz ≤ q)) 1 6 (fun q => sz ≤ q) := by
  refine gH_x (cc := cL_ask) (maxL := 5) (hh := [(0, 10, 13, 13), (0, 10, 17, 33)]) (kx := nI 2) (by decide) rfl (Nat.le_of_ble_eq_true rfl) ?_
  intro pp ee ss mm bw mt cd QQ ls hfx hP hG hE hN hT hret hl
  obtain ⟨hx, hb, hml, hown, hts, hlocks⟩ := hfx
  have hown : ss.vm.findClass RL = some mm.cls := hown
  have hl : lv_has ls 5 [(0, .ref (a 0)), (1, .int (nI i)), (2, .int (nI b)), (3, .ref o9)] := hl
  refine lv_aload_n hx hb dL_ask_0 rfl (lv_at hl 3 rfl) ?_
  refine lv_iconst (v := nI 0) hx hb dL_ask_1 (by decide) ?_
  refine lv_aload_n hx hb dL_ask_2 rfl (lv_at hl 0 rfl) ?_
  refine lv_iload_n hx hb dL_ask_3 rfl (lv_at hl 1 rfl) ?_
  refine lv_iload_n hx hb dL_ask_4 rfl (lv_at hl 2 rfl) ?_
  refine gx_catch (own := RL) (name := xIS) (fun _ _ _ h => h) (vx_runV (As := [.int (nI i), .int (nI b)]) (rest := [.int (nI 0), .ref o9]) ⟨hx, hb, hml, hown, hts⟩ (cx_X3_ask_m l hst D cy sa ss.heap.size a q uw g J dc n i b hi hg hJ hb9 hn) (cwV 2 hts gL_ask_X3_ask rfl rfl rfl (by decide +kernel) ⟨Nat.le_of_ble_eq_true rfl, Nat.le_of_ble_eq_true rfl⟩) (gpVY (ci := 3) (q0 := 0) hG hE (hP.sub [0, 1, 2] rfl) hP rfl rfl) rfl rfl hl.1 rfl (lv_room (Nat.le_of_ble_eq_true rfl)) dL_ask_5 ⟨Nat.le_of_ble_eq_true rfl, Nat.le_of_ble_eq_true rfl⟩) hown [⟨0, 10, 13, 13⟩] ⟨0, 10, 17, 33⟩ [] (hT.trans rfl) ((List.forall_mem_cons.mpr ⟨Or.inr ⟨by decide, xIA, hts (.classLink RL 13 xIA) (by decide +kernel), hN.1⟩, fun _ h9 => absurd h9 List.not_mem_nil⟩)) rfl (by decide) (hts (.classLink RL 33 xIS) (by decide +kernel)) (gcast hE.2.2.2.2.2.2.1) (fun H locs q9 hS => ?_)
  refine lv_astore (lv' := [(4, .ref q9), (0, .ref (a 0)), (1, .int (nI i)), (2, .int (nI b)), (3, .ref o9)]) hx hb dL_ask_17 hl (by decide) rfl (fun ls hl => ?_)
  refine lv_iconst (v := nI 2) hx hb dL_ask_19 (by decide) ?_
  exact hret _ _ _ _ dL_ask_20 hS
set_option maxHeartbeats 4000000 in
set_option maxRecDepth 100000 in
theorem c_L_answer (l : Launch) (D : va_G) (cy : Nat → ClassId) (sz : Nat) (a q : Nat → Nat) (uw : Int32) (g : Nat → Option Nat) (i : Nat) (J : Prop) (dc : Int32) (fs : Nat → Int64) (L : List Int64) (f : Nat → Int64) (M : List (Nat × Int64)) (ft : Nat → Int32) (fm : Nat → Int64) (o9 : Nat) (fx9 : Nat → Int64) (hi : i < 2) (hg : g i = some (q 0)) (hJ : J) (hf : hC L f) (hL : L.length ≤ 6) (hm9 : hM M ft fm) (hn : M.length ≤ 12) (ho : okM M) (h0 : 0 < M.length) : Met l yL_answer wsL_answer ({ frames := 4, cells := 0, slots := 0, locals := 97 } : Room) (va_Pc [.ref (a 0), .int (nI i), .ref o9] (gI D (gT cy) [(a 0, eTop (a 1) (a 3) (a 5) (a 6) uw), (a 5, eQ cy 2 g), (q 0, eCli (gb (J)) (q 1) (q 3) (q 5) (q 7) dc (q 8) (q 9) (nI M.length)), (q 1, eScr (q 2)), (q 2, eJ cy 12 fs), (q 3, eCch (q 4) (nI L.length)), (q 4, eJ cy 6 f), (q 8, eI cy 12 ft), (q 9, eJ cy 12 fm), (o9, eJ cy 1 fx9)] sz)) (va_Qi (fun (r9 : Int32) (u : (Nat → Int64) × (List Int64) × (Nat → Int64)) => r9 = nI 0 ∧ (u.1 = scrF M fs ∧ u.2.1 = cchF M L ∧ (hC u.2.1 u.2.2 ∧ u.2.1.length ≤ 6))) (gO D (fun u : (Nat → Int64) × (List Int64) × (Nat → Int64) => [(a 0, eTop (a 1) (a 3) (a 5) (a 6) uw), (a 5, eQ cy 2 g), (q 0, eCli (gb (J)) (q 1) (q 3) (q 5) (q 7) dc (q 8) (q 9) (nI 0)), (q 1, eScr (q 2)), (q 2, eJ cy 12 u.1), (q 3, eCch (q 4) (nI u.2.1.length)), (q 4, eJ cy 6 u.2.2), (q 8, eI cy 12 ft), (q 9, eJ cy 12 fm), (o9, eJ cy 1 (vp_updL fx9 0 ((nI M.length).toInt64)))]) (va_A [(a 0, eTop (a 1) (a 3) (a 5) (a 6) uw), (a 5, eQ cy 2 g), (q 0, eCli (gb (J)) (q 1) (q 3) (q 5) (q 7) dc (q 8) (q 9) (nI M.length)), (q 1, eScr (q 2)), (q 2, eJ cy 12 fs), (q 3, eCch (q 4) (nI L.length)), (q 4, eJ cy 6 f), (q 8, eI cy 12 ft), (q 9, eJ cy 12 fm), (o9, eJ cy 1 fx9)] sz)) (va_A [(a 0, eTop (a 1) (a 3) (a 5) (a 6) uw), (a 5, eQ cy 2 g), (q 0, eCli (gb (J)) (q 1) (q 3) (q 5) (q 7) dc (q 8) (q 9) (nI M.length)), (q 1, eScr (q 2)), (q 2, eJ cy 12 fs), (q 3, eCch (q 4) (nI L.length)), (q 4, eJ cy 6 f), (q 8, eI cy 12 ft), (q 9, eJ cy 12 fm), (o9, eJ cy 1 fx9)] sz)) 0 0 (va_A [(a 0, eTop (a 1) (a 3) (a 5) (a 6) uw), (a 5, eQ cy 2 g), (q 0, eCli (gb (J)) (q 1) (q 3) (q 5) (q 7) dc (q 8) (q 9) (nI M.length)), (q 1, eScr (q 2)), (q 2, eJ cy 12 fs), (q 3, eCch (q 4) (nI L.length)), (q 4, eJ cy 6 f), (q 8, eI cy 12 ft), (q 9, eJ cy 12 fm), (o9, eJ cy 1 fx9)] sz) := by
  refine gH_i (cc := cL_answer) (maxL := 4) (hh := [(0, 9, 12, 13), (0, 9, 15, 33)]) (by decide) rfl (Nat.le_of_ble_eq_true rfl) ?_
  intro pp ee ss mm bw mt cd QQ AA ls hfx hP hG hD hA hret hl
  have hS : va_S AA ss.heap ss.heap [] := va_S.rf
  obtain ⟨H, eH⟩ : ∃ H, H = ss.heap := ⟨_, rfl⟩
  obtain ⟨locs, eL⟩ : ∃ L : List Loc, L = [] := ⟨_, rfl⟩
  have hP : va_P D vwCl [(a 0, eTop (a 1) (a 3) (a 5) (a 6) uw), (a 5, eQ cy 2 g), (q 0, eCli (gb (J)) (q 1) (q 3) (q 5) (q 7) dc (q 8) (q 9) (nI M.length)), (q 1, eScr (q 2)), (q 2, eJ cy 12 fs), (q 3, eCch (q 4) (nI L.length)), (q 4, eJ cy 6 f), (q 8, eI cy 12 ft), (q 9, eJ cy 12 fm), (o9, eJ cy 1 fx9)] H := by rw [eH]; exact hP
  have hS : va_S AA ss.heap H locs := by rw [eH, eL]; exact hS
  have goal : ∀ X Y, X = H → Y = locs → W pp l ee ({ frames := 4, cells := 0, slots := 0, locals := 97 } : Room) ss mm ([.ref (a 0), .int (nI i), .ref o9] : List Value).toArray bw mt cd X Y 0 0 QQ (F0 mm 0 ls []) → W pp l ee ({ frames := 4, cells := 0, slots := 0, locals := 97 } : Room) ss mm ([.ref (a 0), .int (nI i), .ref o9] : List Value).toArray bw mt cd ss.heap [] 0 0 QQ (F0 mm 0 ls []) := fun X Y hX hY h => by rw [hX, hY, eH, eL] at h; exact h
  refine goal H locs rfl rfl ?_
  clear goal eH eL
  obtain ⟨hx, hb, hml, hown, hts, hlocks⟩ := hfx
  have hown : ss.vm.findClass RL = some mm.cls := hown
  have hl : lv_has ls 4 [(0, .ref (a 0)), (1, .int (nI i)), (2, .ref o9)] := hl
  refine lv_aload_n hx hb dL_answer_0 rfl (lv_at hl 2 rfl) ?_
  refine lv_iconst (v := nI 0) hx hb dL_answer_1 (by decide) ?_
  refine lv_aload_n hx hb dL_answer_2 rfl (lv_at hl 0 rfl) ?_
  refine lv_iload_n hx hb dL_answer_3 rfl (lv_at hl 1 rfl) ?_
  refine gc_Wi (wn := fun u => [(a 0, eTop (a 1) (a 3) (a 5) (a 6) uw), (a 5, eQ cy 2 g), (q 0, eCli (gb (J)) (q 1) (q 3) (q 5) (q 7) dc (q 8) (q 9) (nI 0)), (q 1, eScr (q 2)), (q 2, eJ cy 12 u.1), (q 3, eCch (q 4) (nI u.2.1.length)), (q 4, eJ cy 6 u.2.2), (q 8, eI cy 12 ft), (q 9, eJ cy 12 fm), (o9, eJ cy 1 fx9)]) (wr := [(o9, eJ cy 1 fx9)]) (va_runV (As := [.int (nI i)]) (rest := [.int (nI 0), .ref o9]) ⟨hx, hb, hml, hown, hts⟩ (c_X3_answer l D cy H.size a q uw g i J dc fs L f M ft fm hi hg hJ hf hL hm9 hn ho h0) (cwV 1 hts gL_answer_X3_answer rfl rfl rfl (by decide +kernel) ⟨Nat.le_of_ble_eq_true rfl, Nat.le_of_ble_eq_true rfl⟩) (gpVI (ci := 3) (q0 := 0) hG (hP.sub [0, 1, 2, 3, 4, 5, 6, 7, 8] rfl) (hD.sub [0, 1, 2, 3, 4, 5, 6, 7, 8] (by decide) rfl) rfl rfl) rfl rfl hl.1 rfl (lv_room (Nat.le_of_ble_eq_true rfl)) dL_answer_4 ⟨Nat.zero_le _, Nat.zero_le _⟩) hP hD hS hA [0, 1, 2, 3, 4, 5, 6, 7, 8] [9] [1, 2, 3, 4, 5, 6, 7, 8, 9, 0] rfl rfl (by decide) (by decide) (fun _ => rfl) (by decide) (fun r_4 u9 H locs hw_4 hP hD hS => ?_)
  obtain ⟨fs2_4, L2_4, f2_4⟩ := u9
  have hP : va_P D vwCl [(a 0, eTop (a 1) (a 3) (a 5) (a 6) uw), (a 5, eQ cy 2 g), (q 0, eCli (gb (J)) (q 1) (q 3) (q 5) (q 7) dc (q 8) (q 9) (nI 0)), (q 1, eScr (q 2)), (q 2, eJ cy 12 fs2_4), (q 3, eCch (q 4) (nI L2_4.length)), (q 4, eJ cy 6 f2_4), (q 8, eI cy 12 ft), (q 9, eJ cy 12 fm), (o9, eJ cy 1 fx9)] H := hP
  have hD : va_D AA [(a 0, eTop (a 1) (a 3) (a 5) (a 6) uw), (a 5, eQ cy 2 g), (q 0, eCli (gb (J)) (q 1) (q 3) (q 5) (q 7) dc (q 8) (q 9) (nI 0)), (q 1, eScr (q 2)), (q 2, eJ cy 12 fs2_4), (q 3, eCch (q 4) (nI L2_4.length)), (q 4, eJ cy 6 f2_4), (q 8, eI cy 12 ft), (q 9, eJ cy 12 fm), (o9, eJ cy 1 fx9)] := hD
  obtain ⟨hr_4, hw_4⟩ := hw_4
  refine g_ti (y := nI M.length) hr_4 ?_
  obtain ⟨ef_4, hw_4⟩ := hw_4
  subst ef_4
  obtain ⟨ef_4, hw_4⟩ := hw_4
  subst ef_4
  have hP : va_P D vwCl [(a 0, eTop (a 1) (a 3) (a 5) (a 6) uw), (a 5, eQ cy 2 g), (q 0, eCli (gb (J)) (q 1) (q 3) (q 5) (q 7) dc (q 8) (q 9) (nI 0)), (q 1, eScr (q 2)), (q 2, eJ cy 12 ((scrF M fs))), (q 3, eCch (q 4) (nI (cchF M L).length)), (q 4, eJ cy 6 f2_4), (q 8, eI cy 12 ft), (q 9, eJ cy 12 fm), (o9, eJ cy 1 fx9)] H := hP
  have hD : va_D AA [(a 0, eTop (a 1) (a 3) (a 5) (a 6) uw), (a 5, eQ cy 2 g), (q 0, eCli (gb (J)) (q 1) (q 3) (q 5) (q 7) dc (q 8) (q 9) (nI 0)), (q 1, eScr (q 2)), (q 2, eJ cy 12 ((scrF M fs))), (q 3, eCch (q 4) (nI (cchF M L).length)), (q 4, eJ cy 6 f2_4), (q 8, eI cy 12 ft), (q 9, eJ cy 12 fm), (o9, eJ cy 1 fx9)] := hD
  have hw_4 : hC (cchF M L) f2_4 ∧ (cchF M L).length ≤ 6 := hw_4
  refine lv_i2l hx hb dL_answer_7 rfl ?_
  refine g_last hx hb hG hP hD hS 9 1 rfl rfl (k := 0) (by omega) (by decide) dL_answer_8 (fun H locs hP hD hS => ?_)
  have hP : va_P D vwCl [(a 0, eTop (a 1) (a 3) (a 5) (a 6) uw), (a 5, eQ cy 2 g), (q 0, eCli (gb (J)) (q 1) (q 3) (q 5) (q 7) dc (q 8) (q 9) (nI 0)), (q 1, eScr (q 2)), (q 2, eJ cy 12 ((scrF M fs))), (q 3, eCch (q 4) (nI (cchF M L).length)), (q 4, eJ cy 6 f2_4), (q 8, eI cy 12 ft), (q 9, eJ cy 12 fm), (o9, eJ cy 1 (vp_updL fx9 0 ((nI M.length).toInt64)))] H := hP
  have hD : va_D AA [(a 0, eTop (a 1) (a 3) (a 5) (a 6) uw), (a 5, eQ cy 2 g), (q 0, eCli (gb (J)) (q 1) (q 3) (q 5) (q 7) dc (q 8) (q 9) (nI 0)), (q 1, eScr (q 2)), (q 2, eJ cy 12 ((scrF M fs))), (q 3, eCch (q 4) (nI (cchF M L).length)), (q 4, eJ cy 6 f2_4), (q 8, eI cy 12 ft), (q 9, eJ cy 12 fm), (o9, eJ cy 1 (vp_updL fx9 0 ((nI M.length).toInt64)))] := hD
  refine lv_goto (tgt := 18) hx hb dL_answer_9 (by decide) ?_
  refine lv_iconst (v := nI 0) hx hb dL_answer_18 (by decide) ?_
  exact hret _ _ _ _ _ ⟨scrF M fs, cchF M L, f2_4⟩ dL_answer_19 (⟨rfl, rfl, rfl, hw_4⟩) (hP.sub [0, 1, 2, 3, 4, 5, 6, 7, 8, 9] rfl) (hD.sub [0, 1, 2, 3, 4, 5, 6, 7, 8, 9] (by decide) rfl) hS
set_option maxHeartbeats 4000000 in
set_option maxRecDepth 100000 in
theorem cx_L_answer (l : Launch) (hst : l.stackTraces = false) (D : va_G) (cy : Nat → ClassId) (sa : Nat → Nat) (sz : Nat) (a : Nat → Nat) (uw : Int32) (i : Int32) (o9 : Nat) (hn : ¬ pIn i 0 1) : Met l yL_answer wsL_answer ({ frames := 8, cells := 1, slots := 6, locals := 131 } : Room) (va_Pc [.ref (a 0), .int i, .ref o9] (gXw D (gT cy) sa [(a 0, eTop (a 1) (a 3) (a 5) (a 6) uw)] sz)) (va_Qi (fun (r9 : Int32) (_ : Unit) => r9 = nI 1) (fun _ _ => True) (fun q => sz ≤ q)) 1 6 (fun q => sz ≤ q) := by
  refine gH_x (cc := cL_answer) (maxL := 4) (hh := [(0, 9, 12, 13), (0, 9, 15, 33)]) (kx := nI 1) (by decide) rfl (Nat.le_of_ble_eq_true rfl) ?_
  intro pp ee ss mm bw mt cd QQ ls hfx hP hG hE hN hT hret hl
  obtain ⟨hx, hb, hml, hown, hts, hlocks⟩ := hfx
  have hown : ss.vm.findClass RL = some mm.cls := hown
  have hl : lv_has ls 4 [(0, .ref (a 0)), (1, .int i), (2, .ref o9)] := hl
  refine lv_aload_n hx hb dL_answer_0 rfl (lv_at hl 2 rfl) ?_
  refine lv_iconst (v := nI 0) hx hb dL_answer_1 (by decide) ?_
  refine lv_aload_n hx hb dL_answer_2 rfl (lv_at hl 0 rfl) ?_
  refine lv_iload_n hx hb dL_answer_3 rfl (lv_at hl 1 rfl) ?_
  refine gx_catch (own := RL) (name := xIA) (fun _ _ _ h => h) (vx_runV (As := [.int i]) (rest := [.int (nI 0), .ref o9]) ⟨hx, hb, hml, hown, hts⟩ (cx_X3_answer l hst D cy sa ss.heap.size (a 0) i hn) (cwV 1 hts gL_answer_X3_answer rfl rfl rfl (by decide +kernel) ⟨Nat.le_of_ble_eq_true rfl, Nat.le_of_ble_eq_true rfl⟩) (gpVY (ci := 3) (q0 := 0) hG hE (hP.sub [] rfl) hP rfl rfl) rfl rfl hl.1 rfl (lv_room (Nat.le_of_ble_eq_true rfl)) dL_answer_4 ⟨Nat.le_of_ble_eq_true rfl, Nat.le_of_ble_eq_true rfl⟩) hown [] ⟨0, 9, 12, 13⟩ [⟨0, 9, 15, 33⟩] (hT.trans rfl) (fun _ h9 => absurd h9 List.not_mem_nil) rfl (by decide) (hts (.classLink RL 13 xIA) (by decide +kernel)) (gcast hE.2.2.2.2.2.1) (fun H locs q9 hS => ?_)
  refine lv_astore_n (lv' := [(3, .ref q9), (0, .ref (a 0)), (1, .int i), (2, .ref o9)]) hx hb dL_answer_12 rfl hl (by decide) rfl (fun ls hl => ?_)
  refine lv_iconst (v := nI 1) hx hb dL_answer_13 (by decide) ?_
  exact hret _ _ _ _ dL_answer_14 hS
set_option maxHeartbeats 4000000 in
set_option maxRecDepth 100000 in
theorem cx_L_answer_s (l : Launch) (hst : l.stackTraces = false) (D : va_G) (cy : Nat → ClassId) (sa : Nat → Nat) (sz : Nat) (a q : Nat → Nat) (uw : Int32) (g : Nat → Option Nat) (J : Prop) (dc k : Int32) (i : Nat) (o9 : Nat) (hi : i < 2) (hg : g i = some (q 0)) (hJ : ¬ J) : Met l yL_answer wsL_answer ({ frames := 8, cells := 1, slots := 6, locals := 131 } : Room) (va_Pc [.ref (a 0), .int (nI i), .ref o9] (gXw D (gT cy) sa [(a 0, eTop (a 1) (a 3) (a 5) (a 6) uw), (a 5, eQ cy 2 g), (q 0, eCli (gb (J)) (q 1) (q 3) (q 5) (q 7) dc (q 8) (q 9) k)] sz)) (va_Qi (fun (r9 : Int32) (_ : Unit) => r9 = nI 2) (fun _ _ => True) (fun q => sz ≤ q)) 1 6 (fun q => sz ≤ q) := by
  refine gH_x (cc := cL_answer) (maxL := 4) (hh := [(0, 9, 12, 13), (0, 9, 15, 33)]) (kx := nI 2) (by decide) rfl (Nat.le_of_ble_eq_true rfl) ?_
  intro pp ee ss mm bw mt cd QQ ls hfx hP hG hE hN hT hret hl
  obtain ⟨hx, hb, hml, hown, hts, hlocks⟩ := hfx
  have hown : ss.vm.findClass RL = some mm.cls := hown
  have hl : lv_has ls 4 [(0, .ref (a 0)), (1, .int (nI i)), (2, .ref o9)] := hl
  refine lv_aload_n hx hb dL_answer_0 rfl (lv_at hl 2 rfl) ?_
  refine lv_iconst (v := nI 0) hx hb dL_answer_1 (by decide) ?_
  refine lv_aload_n hx hb dL_answer_2 rfl (lv_at hl 0 rfl) ?_
  refine lv_iload_n hx hb dL_answer_3 rfl (lv_at hl 1 rfl) ?_
  refine gx_catch (own := RL) (name := xIS) (fun _ _ _ h => h) (vx_runV (As := [.int (nI i)]) (rest := [.int (nI 0), .ref o9]) ⟨hx, hb, hml, hown, hts⟩ (cx_X3_answer_s l hst D cy sa ss.heap.size a q uw g J dc k i hi hg hJ) (cwV 1 hts gL_answer_X3_answer rfl rfl rfl (by decide +kernel) ⟨Nat.le_of_ble_eq_true rfl, Nat.le_of_ble_eq_true rfl⟩) (gpVY (ci := 3) (q0 := 0) hG hE (hP.sub [0, 1, 2] rfl) hP rfl rfl) rfl rfl hl.1 rfl (lv_room (Nat.le_of_ble_eq_true rfl)) dL_answer_4 ⟨Nat.le_of_ble_eq_true rfl, Nat.le_of_ble_eq_true rfl⟩) hown [⟨0, 9, 12, 13⟩] ⟨0, 9, 15, 33⟩ [] (hT.trans rfl) ((List.forall_mem_cons.mpr ⟨Or.inr ⟨by decide, xIA, hts (.classLink RL 13 xIA) (by decide +kernel), hN.1⟩, fun _ h9 => absurd h9 List.not_mem_nil⟩)) rfl (by decide) (hts (.classLink RL 33 xIS) (by decide +kernel)) (gcast hE.2.2.2.2.2.2.1) (fun H locs q9 hS => ?_)
  refine lv_astore_n (lv' := [(3, .ref q9), (0, .ref (a 0)), (1, .int (nI i)), (2, .ref o9)]) hx hb dL_answer_15 rfl hl (by decide) rfl (fun ls hl => ?_)
  refine lv_iconst (v := nI 2) hx hb dL_answer_16 (by decide) ?_
  exact hret _ _ _ _ dL_answer_17 hS
set_option maxHeartbeats 4000000 in
set_option maxRecDepth 100000 in
theorem cx_L_answer_m (l : Launch) (hst : l.stackTraces = false) (D : va_G) (cy : Nat → ClassId) (sa : Nat → Nat) (sz : Nat) (a q : Nat → Nat) (uw : Int32) (g : Nat → Option Nat) (J : Prop) (dc : Int32) (n i : Nat) (o9 : Nat) (hi : i < 2) (hg : g i = some (q 0)) (hJ : J) (hn : n = 0) : Met l yL_answer wsL_answer ({ frames := 8, cells := 1, slots := 6, locals := 131 } : Room) (va_Pc [.ref (a 0), .int (nI i), .ref o9] (gXw D (gT cy) sa [(a 0, eTop (a 1) (a 3) (a 5) (a 6) uw), (a 5, eQ cy 2 g), (q 0, eCli (gb (J)) (q 1) (q 3) (q 5) (q 7) dc (q 8) (q 9) (nI n))] sz)) (va_Qi (fun (r9 : Int32) (_ : Unit) => r9 = nI 2) (fun _ _ => True) (fun q => sz ≤ q)) 1 6 (fun q => sz ≤ q) := by
  refine gH_x (cc := cL_answer) (maxL := 4) (hh := [(0, 9, 12, 13), (0, 9, 15, 33)]) (kx := nI 2) (by decide) rfl (Nat.le_of_ble_eq_true rfl) ?_
  intro pp ee ss mm bw mt cd QQ ls hfx hP hG hE hN hT hret hl
  obtain ⟨hx, hb, hml, hown, hts, hlocks⟩ := hfx
  have hown : ss.vm.findClass RL = some mm.cls := hown
  have hl : lv_has ls 4 [(0, .ref (a 0)), (1, .int (nI i)), (2, .ref o9)] := hl
  refine lv_aload_n hx hb dL_answer_0 rfl (lv_at hl 2 rfl) ?_
  refine lv_iconst (v := nI 0) hx hb dL_answer_1 (by decide) ?_
  refine lv_aload_n hx hb dL_answer_2 rfl (lv_at hl 0 rfl) ?_
  refine lv_iload_n hx hb dL_answer_3 rfl (lv_at hl 1 rfl) ?_
  refine gx_catch (own := RL) (name := xIS) (fun _ _ _ h => h) (vx_runV (As := [.int (nI i)]) (rest := [.int (nI 0), .ref o9]) ⟨hx, hb, hml, hown, hts⟩ (cx_X3_answer_m l hst D cy sa ss.heap.size a q uw g J dc n i hi hg hJ hn) (cwV 1 hts gL_answer_X3_answer rfl rfl rfl (by decide +kernel) ⟨Nat.le_of_ble_eq_true rfl, Nat.le_of_ble_eq_true rfl⟩) (gpVY (ci := 3) (q0 := 0) hG hE (hP.sub [0, 1, 2] rfl) hP rfl rfl) rfl rfl hl.1 rfl (lv_room (Nat.le_of_ble_eq_true rfl)) dL_answer_4 ⟨Nat.le_of_ble_eq_true rfl, Nat.le_of_ble_eq_true rfl⟩) hown [⟨0, 9, 12, 13⟩] ⟨0, 9, 15, 33⟩ [] (hT.trans rfl) ((List.forall_mem_cons.mpr ⟨Or.inr ⟨by decide, xIA, hts (.classLink RL 13 xIA) (by decide +kernel), hN.1⟩, fun _ h9 => absurd h9 List.not_mem_nil⟩)) rfl (by decide) (hts (.classLink RL 33 xIS) (by decide +kernel)) (gcast hE.2.2.2.2.2.2.1) (fun H locs q9 hS => ?_)
  refine lv_astore_n (lv' := [(3, .ref q9), (0, .ref (a 0)), (1, .int (nI i)), (2, .ref o9)]) hx hb dL_answer_15 rfl hl (by decide) rfl (fun ls hl => ?_)
  refine lv_iconst (v := nI 2) hx hb dL_answer_16 (by decide) ?_
  exact hret _ _ _ _ dL_answer_17 hS
set_option maxHeartbeats 4000000 in
set_option maxRecDepth 100000 in
theorem c_L_isAlike (l : Launch) (D : va_G) (cy : Nat → ClassId) (sz : Nat) (a q : Nat → Nat) (uw : Int32) (g : Nat → Option Nat) (J : Prop) (dc k : Int32) (i : Nat) (L : List Int64) (f : Nat → Int64) (K : List Int64) (h : Nat → Int64) (o9 : Nat) (fx9 : Nat → Int64) (hi : i < 2) (hg : g i = some (q 0)) (hJ : J) (hf : hC L f) (hL : L.length ≤ 6) (hh : hC K h) (hK : K.length ≤ 6) : Met l yL_isAlike wsL_isAlike ({ frames := 2, cells := 0, slots := 0, locals := 43 } : Room) (va_Pc [.ref (a 0), .int (nI i), .ref o9] (gI D (gT cy) [(a 0, eTop (a 1) (a 3) (a 5) (a 6) uw), (a 5, eQ cy 2 g), (q 0, eCli (gb (J)) (q 1) (q 3) (q 5) (q 7) dc (q 8) (q 9) k), (q 3, eCch (q 4) (nI L.length)), (q 4, eJ cy 6 f), (q 5, eCch (q 6) (nI K.length)), (q 6, eJ cy 6 h), (o9, eJ cy 1 fx9)] sz)) (va_Qi (fun (r9 : Int32) (u : Unit) => r9 = nI 0 ∧ ((True))) (gO D (fun u : Unit => [(a 0, eTop (a 1) (a 3) (a 5) (a 6) uw), (a 5, eQ cy 2 g), (q 0, eCli (gb (J)) (q 1) (q 3) (q 5) (q 7) dc (q 8) (q 9) k), (q 3, eCch (q 4) (nI L.length)), (q 4, eJ cy 6 f), (q 5, eCch (q 6) (nI K.length)), (q 6, eJ cy 6 h), (o9, eJ cy 1 (vp_updL fx9 0 (gL (K = L))))]) (va_A [(a 0, eTop (a 1) (a 3) (a 5) (a 6) uw), (a 5, eQ cy 2 g), (q 0, eCli (gb (J)) (q 1) (q 3) (q 5) (q 7) dc (q 8) (q 9) k), (q 3, eCch (q 4) (nI L.length)), (q 4, eJ cy 6 f), (q 5, eCch (q 6) (nI K.length)), (q 6, eJ cy 6 h), (o9, eJ cy 1 fx9)] sz)) (va_A [(a 0, eTop (a 1) (a 3) (a 5) (a 6) uw), (a 5, eQ cy 2 g), (q 0, eCli (gb (J)) (q 1) (q 3) (q 5) (q 7) dc (q 8) (q 9) k), (q 3, eCch (q 4) (nI L.length)), (q 4, eJ cy 6 f), (q 5, eCch (q 6) (nI K.length)), (q 6, eJ cy 6 h), (o9, eJ cy 1 fx9)] sz)) 0 0 (va_A [(a 0, eTop (a 1) (a 3) (a 5) (a 6) uw), (a 5, eQ cy 2 g), (q 0, eCli (gb (J)) (q 1) (q 3) (q 5) (q 7) dc (q 8) (q 9) k), (q 3, eCch (q 4) (nI L.length)), (q 4, eJ cy 6 f), (q 5, eCch (q 6) (nI K.length)), (q 6, eJ cy 6 h), (o9, eJ cy 1 fx9)] sz) := by
  refine gH_i (cc := cL_isAlike) (maxL := 4) (hh := [(0, 16, 19, 13), (0, 16, 22, 33)]) (by decide) rfl (Nat.le_of_ble_eq_true rfl) ?_
  intro pp ee ss mm bw mt cd QQ AA ls hfx hP hG hD hA hret hl
  have hS : va_S AA ss.heap ss.heap [] := va_S.rf
  obtain ⟨H, eH⟩ : ∃ H, H = ss.heap := ⟨_, rfl⟩
  obtain ⟨locs, eL⟩ : ∃ L : List Loc, L = [] := ⟨_, rfl⟩
  have hP : va_P D vwCl [(a 0, eTop (a 1) (a 3) (a 5) (a 6) uw), (a 5, eQ cy 2 g), (q 0, eCli (gb (J)) (q 1) (q 3) (q 5) (q 7) dc (q 8) (q 9) k), (q 3, eCch (q 4) (nI L.length)), (q 4, eJ cy 6 f), (q 5, eCch (q 6) (nI K.length)), (q 6, eJ cy 6 h), (o9, eJ cy 1 fx9)] H := by rw [eH]; exact hP
  have hS : va_S AA ss.heap H locs := by rw [eH, eL]; exact hS
  have goal : ∀ X Y, X = H → Y = locs → W pp l ee ({ frames := 2, cells := 0, slots := 0, locals := 43 } : Room) ss mm ([.ref (a 0), .int (nI i), .ref o9] : List Value).toArray bw mt cd X Y 0 0 QQ (F0 mm 0 ls []) → W pp l ee ({ frames := 2, cells := 0, slots := 0, locals := 43 } : Room) ss mm ([.ref (a 0), .int (nI i), .ref o9] : List Value).toArray bw mt cd ss.heap [] 0 0 QQ (F0 mm 0 ls []) := fun X Y hX hY h => by rw [hX, hY, eH, eL] at h; exact h
  refine goal H locs rfl rfl ?_
  clear goal eH eL
  obtain ⟨hx, hb, hml, hown, hts, hlocks⟩ := hfx
  have hown : ss.vm.findClass RL = some mm.cls := hown
  have hl : lv_has ls 4 [(0, .ref (a 0)), (1, .int (nI i)), (2, .ref o9)] := hl
  refine lv_aload_n hx hb dL_isAlike_0 rfl (lv_at hl 2 rfl) ?_
  refine lv_iconst (v := nI 0) hx hb dL_isAlike_1 (by decide) ?_
  refine lv_aload_n hx hb dL_isAlike_2 rfl (lv_at hl 0 rfl) ?_
  refine lv_iload_n hx hb dL_isAlike_3 rfl (lv_at hl 1 rfl) ?_
  refine gc_Si (va_runV (As := [.int (nI i)]) (rest := [.int (nI 0), .ref o9]) ⟨hx, hb, hml, hown, hts⟩ (c_X3_isAlike l D cy a q uw g J dc k i L f K h hi hg hJ hf hL hh hK) (cwV 1 hts gL_isAlike_X3_isAlike rfl rfl rfl (by decide +kernel) ⟨Nat.le_of_ble_eq_true rfl, Nat.le_of_ble_eq_true rfl⟩) (gpVR (ci := 3) (q0 := 0) hG (hP.sub [0, 1, 2, 3, 4, 5, 6] rfl) rfl rfl) rfl rfl hl.1 rfl (lv_room (Nat.le_of_ble_eq_true rfl)) dL_isAlike_4 ⟨Nat.zero_le _, Nat.zero_le _⟩) ?_
  refine lv_if_eq (tgt := 14) hx hb dL_isAlike_7 (by decide) (fun c_7 => ?_) (fun c_7 => ?_)
  · skip
    have c_7 : ¬ (K = L) := gb_eq0.mp c_7
    refine lv_lconst (v := 0) hx hb dL_isAlike_14 (by decide) ?_
    refine g_tl (y := gL (K = L)) ((gL_f c_7).symm) ?_
    refine g_last hx hb hG hP hD hS 7 1 rfl rfl (k := 0) (by omega) (by decide) dL_isAlike_15 (fun H locs hP hD hS => ?_)
    have hP : va_P D vwCl [(a 0, eTop (a 1) (a 3) (a 5) (a 6) uw), (a 5, eQ cy 2 g), (q 0, eCli (gb (J)) (q 1) (q 3) (q 5) (q 7) dc (q 8) (q 9) k), (q 3, eCch (q 4) (nI L.length)), (q 4, eJ cy 6 f), (q 5, eCch (q 6) (nI K.length)), (q 6, eJ cy 6 h), (o9, eJ cy 1 (vp_updL fx9 0 (gL (K = L))))] H := hP
    have hD : va_D AA [(a 0, eTop (a 1) (a 3) (a 5) (a 6) uw), (a 5, eQ cy 2 g), (q 0, eCli (gb (J)) (q 1) (q 3) (q 5) (q 7) dc (q 8) (q 9) k), (q 3, eCch (q 4) (nI L.length)), (q 4, eJ cy 6 f), (q 5, eCch (q 6) (nI K.length)), (q 6, eJ cy 6 h), (o9, eJ cy 1 (vp_updL fx9 0 (gL (K = L))))] := hD
    refine lv_goto (tgt := 25) hx hb dL_isAlike_16 (by decide) ?_
    refine lv_iconst (v := nI 0) hx hb dL_isAlike_25 (by decide) ?_
    exact hret _ _ _ _ _ () dL_isAlike_26 (⟨rfl, trivial⟩) (hP.sub [0, 1, 2, 3, 4, 5, 6, 7] rfl) (hD.sub [0, 1, 2, 3, 4, 5, 6, 7] (by decide) rfl) hS
  · skip
    have c_7 : K = L := gb_ne0.mp c_7
    refine lv_lconst (v := 1) hx hb dL_isAlike_10 (by decide) ?_
    refine g_tl (y := gL (K = L)) ((gL_t c_7).symm) ?_
    refine lv_goto (tgt := 15) hx hb dL_isAlike_11 (by decide) ?_
    refine g_last hx hb hG hP hD hS 7 1 rfl rfl (k := 0) (by omega) (by decide) dL_isAlike_15 (fun H locs hP hD hS => ?_)
    have hP : va_P D vwCl [(a 0, eTop (a 1) (a 3) (a 5) (a 6) uw), (a 5, eQ cy 2 g), (q 0, eCli (gb (J)) (q 1) (q 3) (q 5) (q 7) dc (q 8) (q 9) k), (q 3, eCch (q 4) (nI L.length)), (q 4, eJ cy 6 f), (q 5, eCch (q 6) (nI K.length)), (q 6, eJ cy 6 h), (o9, eJ cy 1 (vp_updL fx9 0 (gL (K = L))))] H := hP
    have hD : va_D AA [(a 0, eTop (a 1) (a 3) (a 5) (a 6) uw), (a 5, eQ cy 2 g), (q 0, eCli (gb (J)) (q 1) (q 3) (q 5) (q 7) dc (q 8) (q 9) k), (q 3, eCch (q 4) (nI L.length)), (q 4, eJ cy 6 f), (q 5, eCch (q 6) (nI K.length)), (q 6, eJ cy 6 h), (o9, eJ cy 1 (vp_updL fx9 0 (gL (K = L))))] := hD
    refine lv_goto (tgt := 25) hx hb dL_isAlike_16 (by decide) ?_
    refine lv_iconst (v := nI 0) hx hb dL_isAlike_25 (by decide) ?_
    exact hret _ _ _ _ _ () dL_isAlike_26 (⟨rfl, trivial⟩) (hP.sub [0, 1, 2, 3, 4, 5, 6, 7] rfl) (hD.sub [0, 1, 2, 3, 4, 5, 6, 7] (by decide) rfl) hS
set_option maxHeartbeats 4000000 in
set_option maxRecDepth 100000 in
theorem cx_L_isAlike (l : Launch) (hst : l.stackTraces = false) (D : va_G) (cy : Nat → ClassId) (sa : Nat → Nat) (sz : Nat) (a : Nat → Nat) (uw : Int32) (i : Int32) (o9 : Nat) (hn : ¬ pIn i 0 1) : Met l yL_isAlike wsL_isAlike ({ frames := 8, cells := 1, slots := 6, locals := 131 } : Room) (va_Pc [.ref (a 0), .int i, .ref o9] (gXw D (gT cy) sa [(a 0, eTop (a 1) (a 3) (a 5) (a 6) uw)] sz)) (va_Qi (fun (r9 : Int32) (_ : Unit) => r9 = nI 1) (fun _ _ => True) (fun q => sz ≤ q)) 1 6 (fun q => sz ≤ q) := by
  refine gH_x (cc := cL_isAlike) (maxL := 4) (hh := [(0, 16, 19, 13), (0, 16, 22, 33)]) (kx := nI 1) (by decide) rfl (Nat.le_of_ble_eq_true rfl) ?_
  intro pp ee ss mm bw mt cd QQ ls hfx hP hG hE hN hT hret hl
  obtain ⟨hx, hb, hml, hown, hts, hlocks⟩ := hfx
  have hown : ss.vm.findClass RL = some mm.cls := hown
  have hl : lv_has ls 4 [(0, .ref (a 0)), (1, .int i), (2, .ref o9)] := hl
  refine lv_aload_n hx hb dL_isAlike_0 rfl (lv_at hl 2 rfl) ?_
  refine lv_iconst (v := nI 0) hx hb dL_isAlike_1 (by decide) ?_
  refine lv_aload_n hx hb dL_isAlike_2 rfl (lv_at hl 0 rfl) ?_
  refine lv_iload_n hx hb dL_isAlike_3 rfl (lv_at hl 1 rfl) ?_
  refine gx_catch (own := RL) (name := xIA) (fun _ _ _ h => h) (vx_runV (As := [.int i]) (rest := [.int (nI 0), .ref o9]) ⟨hx, hb, hml, hown, hts⟩ (cx_X3_isAlike l hst D cy sa ss.heap.size (a 0) i hn) (cwV 1 hts gL_isAlike_X3_isAlike rfl rfl rfl (by decide +kernel) ⟨Nat.le_of_ble_eq_true rfl, Nat.le_of_ble_eq_true rfl⟩) (gpVY (ci := 3) (q0 := 0) hG hE (hP.sub [] rfl) hP rfl rfl) rfl rfl hl.1 rfl (lv_room (Nat.le_of_ble_eq_true rfl)) dL_isAlike_4 ⟨Nat.le_of_ble_eq_true rfl, Nat.le_of_ble_eq_true rfl⟩) hown [] ⟨0, 16, 19, 13⟩ [⟨0, 16, 22, 33⟩] (hT.trans rfl) (fun _ h9 => absurd h9 List.not_mem_nil) rfl (by decide) (hts (.classLink RL 13 xIA) (by decide +kernel)) (gcast hE.2.2.2.2.2.1) (fun H locs q9 hS => ?_)
  refine lv_astore_n (lv' := [(3, .ref q9), (0, .ref (a 0)), (1, .int i), (2, .ref o9)]) hx hb dL_isAlike_19 rfl hl (by decide) rfl (fun ls hl => ?_)
  refine lv_iconst (v := nI 1) hx hb dL_isAlike_20 (by decide) ?_
  exact hret _ _ _ _ dL_isAlike_21 hS
set_option maxHeartbeats 4000000 in
set_option maxRecDepth 100000 in
theorem cx_L_isAlike_s (l : Launch) (hst : l.stackTraces = false) (D : va_G) (cy : Nat → ClassId) (sa : Nat → Nat) (sz : Nat) (a q : Nat → Nat) (uw : Int32) (g : Nat → Option Nat) (J : Prop) (dc k : Int32) (i : Nat) (o9 : Nat) (hi : i < 2) (hg : g i = some (q 0)) (hJ : ¬ J) : Met l yL_isAlike wsL_isAlike ({ frames := 8, cells := 1, slots := 6, locals := 131 } : Room) (va_Pc [.ref (a 0), .int (nI i), .ref o9] (gXw D (gT cy) sa [(a 0, eTop (a 1) (a 3) (a 5) (a 6) uw), (a 5, eQ cy 2 g), (q 0, eCli (gb (J)) (q 1) (q 3) (q 5) (q 7) dc (q 8) (q 9) k)] sz)) (va_Qi (fun (r9 : Int32) (_ : Unit) => r9 = nI 2) (fun _ _ => True) (fun q => sz ≤ q)) 1 6 (fun q => sz ≤ q) := by
  refine gH_x (cc := cL_isAlike) (maxL := 4) (hh := [(0, 16, 19, 13), (0, 16, 22, 33)]) (kx := nI 2) (by decide) rfl (Nat.le_of_ble_eq_true rfl) ?_
  intro pp ee ss mm bw mt cd QQ ls hfx hP hG hE hN hT hret hl
  obtain ⟨hx, hb, hml, hown, hts, hlocks⟩ := hfx
  have hown : ss.vm.findClass RL = some mm.cls := hown
  have hl : lv_has ls 4 [(0, .ref (a 0)), (1, .int (nI i)), (2, .ref o9)] := hl
  refine lv_aload_n hx hb dL_isAlike_0 rfl (lv_at hl 2 rfl) ?_
  refine lv_iconst (v := nI 0) hx hb dL_isAlike_1 (by decide) ?_
  refine lv_aload_n hx hb dL_isAlike_2 rfl (lv_at hl 0 rfl) ?_
  refine lv_iload_n hx hb dL_isAlike_3 rfl (lv_at hl 1 rfl) ?_
  refine gx_catch (own := RL) (name := xIS) (fun _ _ _ h => h) (vx_runV (As := [.int (nI i)]) (rest := [.int (nI 0), .ref o9]) ⟨hx, hb, hml, hown, hts⟩ (cx_X3_isAlike_s l hst D cy sa ss.heap.size a q uw g J dc k i hi hg hJ) (cwV 1 hts gL_isAlike_X3_isAlike rfl rfl rfl (by decide +kernel) ⟨Nat.le_of_ble_eq_true rfl, Nat.le_of_ble_eq_true rfl⟩) (gpVY (ci := 3) (q0 := 0) hG hE (hP.sub [0, 1, 2] rfl) hP rfl rfl) rfl rfl hl.1 rfl (lv_room (Nat.le_of_ble_eq_true rfl)) dL_isAlike_4 ⟨Nat.le_of_ble_eq_true rfl, Nat.le_of_ble_eq_true rfl⟩) hown [⟨0, 16, 19, 13⟩] ⟨0, 16, 22, 33⟩ [] (hT.trans rfl) ((List.forall_mem_cons.mpr ⟨Or.inr ⟨by decide, xIA, hts (.classLink RL 13 xIA) (by decide +kernel), hN.1⟩, fun _ h9 => absurd h9 List.not_mem_nil⟩)) rfl (by decide) (hts (.classLink RL 33 xIS) (by decide +kernel)) (gcast hE.2.2.2.2.2.2.1) (fun H locs q9 hS => ?_)
  refine lv_astore_n (lv' := [(3, .ref q9), (0, .ref (a 0)), (1, .int (nI i)), (2, .ref o9)]) hx hb dL_isAlike_22 rfl hl (by decide) rfl (fun ls hl => ?_)
  refine lv_iconst (v := nI 2) hx hb dL_isAlike_23 (by decide) ?_
  exact hret _ _ _ _ dL_isAlike_24 hS
set_option maxHeartbeats 4000000 in
set_option maxRecDepth 100000 in
theorem c_L_unlike (l : Launch) (D : va_G) (cy : Nat → ClassId) (sz : Nat) (a q : Nat → Nat) (uw : Int32) (g : Nat → Option Nat) (J : Prop) (dc k : Int32) (i : Nat) (fs fo : Nat → Int64) (o9 : Nat) (fx9 : Nat → Int64) (hi : i < 2) (hg : g i = some (q 0)) (hJ : J) : Met l yL_unlike wsL_unlike ({ frames := 3, cells := 0, slots := 0, locals := 71 } : Room) (va_Pc [.ref (a 0), .int (nI i), .ref o9] (gI D (gT cy) [(a 0, eTop (a 1) (a 3) (a 5) (a 6) uw), (a 5, eQ cy 2 g), (q 0, eCli (gb (J)) (q 1) (q 3) (q 5) (q 7) dc (q 8) (q 9) k), (a 1, eScr (a 2)), (a 2, eJ cy 12 fs), (q 1, eScr (q 2)), (q 2, eJ cy 12 fo), (o9, eJ cy 1 fx9)] sz)) (va_Qi (fun (r9 : Int32) (u : Unit) => r9 = nI 0 ∧ ((True))) (gO D (fun u : Unit => [(a 0, eTop (a 1) (a 3) (a 5) (a 6) uw), (a 5, eQ cy 2 g), (q 0, eCli (gb (J)) (q 1) (q 3) (q 5) (q 7) dc (q 8) (q 9) k), (a 1, eScr (a 2)), (a 2, eJ cy 12 fs), (q 1, eScr (q 2)), (q 2, eJ cy 12 fo), (o9, eJ cy 1 (vp_updL fx9 0 ((nI (sumD fo fs 12)).toInt64)))]) (va_A [(a 0, eTop (a 1) (a 3) (a 5) (a 6) uw), (a 5, eQ cy 2 g), (q 0, eCli (gb (J)) (q 1) (q 3) (q 5) (q 7) dc (q 8) (q 9) k), (a 1, eScr (a 2)), (a 2, eJ cy 12 fs), (q 1, eScr (q 2)), (q 2, eJ cy 12 fo), (o9, eJ cy 1 fx9)] sz)) (va_A [(a 0, eTop (a 1) (a 3) (a 5) (a 6) uw), (a 5, eQ cy 2 g), (q 0, eCli (gb (J)) (q 1) (q 3) (q 5) (q 7) dc (q 8) (q 9) k), (a 1, eScr (a 2)), (a 2, eJ cy 12 fs), (q 1, eScr (q 2)), (q 2, eJ cy 12 fo), (o9, eJ cy 1 fx9)] sz)) 0 0 (va_A [(a 0, eTop (a 1) (a 3) (a 5) (a 6) uw), (a 5, eQ cy 2 g), (q 0, eCli (gb (J)) (q 1) (q 3) (q 5) (q 7) dc (q 8) (q 9) k), (a 1, eScr (a 2)), (a 2, eJ cy 12 fs), (q 1, eScr (q 2)), (q 2, eJ cy 12 fo), (o9, eJ cy 1 fx9)] sz) := by
  refine gH_i (cc := cL_unlike) (maxL := 4) (hh := [(0, 9, 12, 13), (0, 9, 15, 33)]) (by decide) rfl (Nat.le_of_ble_eq_true rfl) ?_
  intro pp ee ss mm bw mt cd QQ AA ls hfx hP hG hD hA hret hl
  have hS : va_S AA ss.heap ss.heap [] := va_S.rf
  obtain ⟨H, eH⟩ : ∃ H, H = ss.heap := ⟨_, rfl⟩
  obtain ⟨locs, eL⟩ : ∃ L : List Loc, L = [] := ⟨_, rfl⟩
  have hP : va_P D vwCl [(a 0, eTop (a 1) (a 3) (a 5) (a 6) uw), (a 5, eQ cy 2 g), (q 0, eCli (gb (J)) (q 1) (q 3) (q 5) (q 7) dc (q 8) (q 9) k), (a 1, eScr (a 2)), (a 2, eJ cy 12 fs), (q 1, eScr (q 2)), (q 2, eJ cy 12 fo), (o9, eJ cy 1 fx9)] H := by rw [eH]; exact hP
  have hS : va_S AA ss.heap H locs := by rw [eH, eL]; exact hS
  have goal : ∀ X Y, X = H → Y = locs → W pp l ee ({ frames := 3, cells := 0, slots := 0, locals := 71 } : Room) ss mm ([.ref (a 0), .int (nI i), .ref o9] : List Value).toArray bw mt cd X Y 0 0 QQ (F0 mm 0 ls []) → W pp l ee ({ frames := 3, cells := 0, slots := 0, locals := 71 } : Room) ss mm ([.ref (a 0), .int (nI i), .ref o9] : List Value).toArray bw mt cd ss.heap [] 0 0 QQ (F0 mm 0 ls []) := fun X Y hX hY h => by rw [hX, hY, eH, eL] at h; exact h
  refine goal H locs rfl rfl ?_
  clear goal eH eL
  obtain ⟨hx, hb, hml, hown, hts, hlocks⟩ := hfx
  have hown : ss.vm.findClass RL = some mm.cls := hown
  have hl : lv_has ls 4 [(0, .ref (a 0)), (1, .int (nI i)), (2, .ref o9)] := hl
  refine lv_aload_n hx hb dL_unlike_0 rfl (lv_at hl 2 rfl) ?_
  refine lv_iconst (v := nI 0) hx hb dL_unlike_1 (by decide) ?_
  refine lv_aload_n hx hb dL_unlike_2 rfl (lv_at hl 0 rfl) ?_
  refine lv_iload_n hx hb dL_unlike_3 rfl (lv_at hl 1 rfl) ?_
  refine gc_Si (va_runV (As := [.int (nI i)]) (rest := [.int (nI 0), .ref o9]) ⟨hx, hb, hml, hown, hts⟩ (c_X3_unlike l D cy a q uw g J dc k i fs fo hi hg hJ) (cwV 1 hts gL_unlike_X3_unlike rfl rfl rfl (by decide +kernel) ⟨Nat.le_of_ble_eq_true rfl, Nat.le_of_ble_eq_true rfl⟩) (gpVR (ci := 3) (q0 := 0) hG (hP.sub [0, 1, 2, 3, 4, 5, 6] rfl) rfl rfl) rfl rfl hl.1 rfl (lv_room (Nat.le_of_ble_eq_true rfl)) dL_unlike_4 ⟨Nat.zero_le _, Nat.zero_le _⟩) ?_
  refine lv_i2l hx hb dL_unlike_7 rfl ?_
  refine g_last hx hb hG hP hD hS 7 1 rfl rfl (k := 0) (by omega) (by decide) dL_unlike_8 (fun H locs hP hD hS => ?_)
  have hP : va_P D vwCl [(a 0, eTop (a 1) (a 3) (a 5) (a 6) uw), (a 5, eQ cy 2 g), (q 0, eCli (gb (J)) (q 1) (q 3) (q 5) (q 7) dc (q 8) (q 9) k), (a 1, eScr (a 2)), (a 2, eJ cy 12 fs), (q 1, eScr (q 2)), (q 2, eJ cy 12 fo), (o9, eJ cy 1 (vp_updL fx9 0 ((nI (sumD fo fs 12)).toInt64)))] H := hP
  have hD : va_D AA [(a 0, eTop (a 1) (a 3) (a 5) (a 6) uw), (a 5, eQ cy 2 g), (q 0, eCli (gb (J)) (q 1) (q 3) (q 5) (q 7) dc (q 8) (q 9) k), (a 1, eScr (a 2)), (a 2, eJ cy 12 fs), (q 1, eScr (q 2)), (q 2, eJ cy 12 fo), (o9, eJ cy 1 (vp_updL fx9 0 ((nI (sumD fo fs 12)).toInt64)))] := hD
  refine lv_goto (tgt := 18) hx hb dL_unlike_9 (by decide) ?_
  refine lv_iconst (v := nI 0) hx hb dL_unlike_18 (by decide) ?_
  exact hret _ _ _ _ _ () dL_unlike_19 (⟨rfl, trivial⟩) (hP.sub [0, 1, 2, 3, 4, 5, 6, 7] rfl) (hD.sub [0, 1, 2, 3, 4, 5, 6, 7] (by decide) rfl) hS
set_option maxHeartbeats 4000000 in
set_option maxRecDepth 100000 in
theorem cx_L_unlike (l : Launch) (hst : l.stackTraces = false) (D : va_G) (cy : Nat → ClassId) (sa : Nat → Nat) (sz : Nat) (a : Nat → Nat) (uw : Int32) (i : Int32) (o9 : Nat) (hn : ¬ pIn i 0 1) : Met l yL_unlike wsL_unlike ({ frames := 8, cells := 1, slots := 6, locals := 134 } : Room) (va_Pc [.ref (a 0), .int i, .ref o9] (gXw D (gT cy) sa [(a 0, eTop (a 1) (a 3) (a 5) (a 6) uw)] sz)) (va_Qi (fun (r9 : Int32) (_ : Unit) => r9 = nI 1) (fun _ _ => True) (fun q => sz ≤ q)) 1 6 (fun q => sz ≤ q) := by
  refine gH_x (cc := cL_unlike) (maxL := 4) (hh := [(0, 9, 12, 13), (0, 9, 15, 33)]) (kx := nI 1) (by decide) rfl (Nat.le_of_ble_eq_true rfl) ?_
  intro pp ee ss mm bw mt cd QQ ls hfx hP hG hE hN hT hret hl
  obtain ⟨hx, hb, hml, hown, hts, hlocks⟩ := hfx
  have hown : ss.vm.findClass RL = some mm.cls := hown
  have hl : lv_has ls 4 [(0, .ref (a 0)), (1, .int i), (2, .ref o9)] := hl
  refine lv_aload_n hx hb dL_unlike_0 rfl (lv_at hl 2 rfl) ?_
  refine lv_iconst (v := nI 0) hx hb dL_unlike_1 (by decide) ?_
  refine lv_aload_n hx hb dL_unlike_2 rfl (lv_at hl 0 rfl) ?_
  refine lv_iload_n hx hb dL_unlike_3 rfl (lv_at hl 1 rfl) ?_
  refine gx_catch (own := RL) (name := xIA) (fun _ _ _ h => h) (vx_runV (As := [.int i]) (rest := [.int (nI 0), .ref o9]) ⟨hx, hb, hml, hown, hts⟩ (cx_X3_unlike l hst D cy sa ss.heap.size (a 0) i hn) (cwV 1 hts gL_unlike_X3_unlike rfl rfl rfl (by decide +kernel) ⟨Nat.le_of_ble_eq_true rfl, Nat.le_of_ble_eq_true rfl⟩) (gpVY (ci := 3) (q0 := 0) hG hE (hP.sub [] rfl) hP rfl rfl) rfl rfl hl.1 rfl (lv_room (Nat.le_of_ble_eq_true rfl)) dL_unlike_4 ⟨Nat.le_of_ble_eq_true rfl, Nat.le_of_ble_eq_true rfl⟩) hown [] ⟨0, 9, 12, 13⟩ [⟨0, 9, 15, 33⟩] (hT.trans rfl) (fun _ h9 => absurd h9 List.not_mem_nil) rfl (by decide) (hts (.classLink RL 13 xIA) (by decide +kernel)) (gcast hE.2.2.2.2.2.1) (fun H locs q9 hS => ?_)
  refine lv_astore_n (lv' := [(3, .ref q9), (0, .ref (a 0)), (1, .int i), (2, .ref o9)]) hx hb dL_unlike_12 rfl hl (by decide) rfl (fun ls hl => ?_)
  refine lv_iconst (v := nI 1) hx hb dL_unlike_13 (by decide) ?_
  exact hret _ _ _ _ dL_unlike_14 hS
set_option maxHeartbeats 4000000 in
set_option maxRecDepth 100000 in
theorem cx_L_unlike_s (l : Launch) (hst : l.stackTraces = false) (D : va_G) (cy : Nat → ClassId) (sa : Nat → Nat) (sz : Nat) (a q : Nat → Nat) (uw : Int32) (g : Nat → Option Nat) (J : Prop) (dc k : Int32) (i : Nat) (o9 : Nat) (hi : i < 2) (hg : g i = some (q 0)) (hJ : ¬ J) : Met l yL_unlike wsL_unlike ({ frames := 8, cells := 1, slots := 6, locals := 134 } : Room) (va_Pc [.ref (a 0), .int (nI i), .ref o9] (gXw D (gT cy) sa [(a 0, eTop (a 1) (a 3) (a 5) (a 6) uw), (a 5, eQ cy 2 g), (q 0, eCli (gb (J)) (q 1) (q 3) (q 5) (q 7) dc (q 8) (q 9) k)] sz)) (va_Qi (fun (r9 : Int32) (_ : Unit) => r9 = nI 2) (fun _ _ => True) (fun q => sz ≤ q)) 1 6 (fun q => sz ≤ q) := by
  refine gH_x (cc := cL_unlike) (maxL := 4) (hh := [(0, 9, 12, 13), (0, 9, 15, 33)]) (kx := nI 2) (by decide) rfl (Nat.le_of_ble_eq_true rfl) ?_
  intro pp ee ss mm bw mt cd QQ ls hfx hP hG hE hN hT hret hl
  obtain ⟨hx, hb, hml, hown, hts, hlocks⟩ := hfx
  have hown : ss.vm.findClass RL = some mm.cls := hown
  have hl : lv_has ls 4 [(0, .ref (a 0)), (1, .int (nI i)), (2, .ref o9)] := hl
  refine lv_aload_n hx hb dL_unlike_0 rfl (lv_at hl 2 rfl) ?_
  refine lv_iconst (v := nI 0) hx hb dL_unlike_1 (by decide) ?_
  refine lv_aload_n hx hb dL_unlike_2 rfl (lv_at hl 0 rfl) ?_
  refine lv_iload_n hx hb dL_unlike_3 rfl (lv_at hl 1 rfl) ?_
  refine gx_catch (own := RL) (name := xIS) (fun _ _ _ h => h) (vx_runV (As := [.int (nI i)]) (rest := [.int (nI 0), .ref o9]) ⟨hx, hb, hml, hown, hts⟩ (cx_X3_unlike_s l hst D cy sa ss.heap.size a q uw g J dc k i hi hg hJ) (cwV 1 hts gL_unlike_X3_unlike rfl rfl rfl (by decide +kernel) ⟨Nat.le_of_ble_eq_true rfl, Nat.le_of_ble_eq_true rfl⟩) (gpVY (ci := 3) (q0 := 0) hG hE (hP.sub [0, 1, 2] rfl) hP rfl rfl) rfl rfl hl.1 rfl (lv_room (Nat.le_of_ble_eq_true rfl)) dL_unlike_4 ⟨Nat.le_of_ble_eq_true rfl, Nat.le_of_ble_eq_true rfl⟩) hown [⟨0, 9, 12, 13⟩] ⟨0, 9, 15, 33⟩ [] (hT.trans rfl) ((List.forall_mem_cons.mpr ⟨Or.inr ⟨by decide, xIA, hts (.classLink RL 13 xIA) (by decide +kernel), hN.1⟩, fun _ h9 => absurd h9 List.not_mem_nil⟩)) rfl (by decide) (hts (.classLink RL 33 xIS) (by decide +kernel)) (gcast hE.2.2.2.2.2.2.1) (fun H locs q9 hS => ?_)
  refine lv_astore_n (lv' := [(3, .ref q9), (0, .ref (a 0)), (1, .int (nI i)), (2, .ref o9)]) hx hb dL_unlike_15 rfl hl (by decide) rfl (fun ls hl => ?_)
  refine lv_iconst (v := nI 2) hx hb dL_unlike_16 (by decide) ?_
  exact hret _ _ _ _ dL_unlike_17 hS
set_option maxHeartbeats 4000000 in
set_option maxRecDepth 100000 in
theorem c_L_shown (l : Launch) (D : va_G) (cy : Nat → ClassId) (sz : Nat) (a q : Nat → Nat) (uw : Int32) (g : Nat → Option Nat) (J : Prop) (dc k : Int32) (i : Nat) (c r : Nat) (fo : Nat → Int64) (o9 : Nat) (fx9 : Nat → Int64) (hi : i < 2) (hg : g i = some (q 0)) (hJ : J) (hc : c < 16) (hr : r < 12) : Met l yL_shown wsL_shown ({ frames := 3, cells := 0, slots := 0, locals := 67 } : Room) (va_Pc [.ref (a 0), .int (nI i), .int (nI c), .int (nI r), .ref o9] (gI D (gT cy) [(a 0, eTop (a 1) (a 3) (a 5) (a 6) uw), (a 5, eQ cy 2 g), (q 0, eCli (gb (J)) (q 1) (q 3) (q 5) (q 7) dc (q 8) (q 9) k), (q 1, eScr (q 2)), (q 2, eJ cy 12 fo), (o9, eJ cy 1 fx9)] sz)) (va_Qi (fun (r9 : Int32) (u : Unit) => r9 = nI 0 ∧ ((True))) (gO D (fun u : Unit => [(a 0, eTop (a 1) (a 3) (a 5) (a 6) uw), (a 5, eQ cy 2 g), (q 0, eCli (gb (J)) (q 1) (q 3) (q 5) (q 7) dc (q 8) (q 9) k), (q 1, eScr (q 2)), (q 2, eJ cy 12 fo), (o9, eJ cy 1 (vp_updL fx9 0 ((nI (cel (fo (tl c r)) (plc c r))).toInt64)))]) (va_A [(a 0, eTop (a 1) (a 3) (a 5) (a 6) uw), (a 5, eQ cy 2 g), (q 0, eCli (gb (J)) (q 1) (q 3) (q 5) (q 7) dc (q 8) (q 9) k), (q 1, eScr (q 2)), (q 2, eJ cy 12 fo), (o9, eJ cy 1 fx9)] sz)) (va_A [(a 0, eTop (a 1) (a 3) (a 5) (a 6) uw), (a 5, eQ cy 2 g), (q 0, eCli (gb (J)) (q 1) (q 3) (q 5) (q 7) dc (q 8) (q 9) k), (q 1, eScr (q 2)), (q 2, eJ cy 12 fo), (o9, eJ cy 1 fx9)] sz)) 0 0 (va_A [(a 0, eTop (a 1) (a 3) (a 5) (a 6) uw), (a 5, eQ cy 2 g), (q 0, eCli (gb (J)) (q 1) (q 3) (q 5) (q 7) dc (q 8) (q 9) k), (q 1, eScr (q 2)), (q 2, eJ cy 12 fo), (o9, eJ cy 1 fx9)] sz) := by
  refine gH_i (cc := cL_shown) (maxL := 6) (hh := [(0, 12, 15, 13), (0, 12, 19, 33)]) (by decide) rfl (Nat.le_of_ble_eq_true rfl) ?_
  intro pp ee ss mm bw mt cd QQ AA ls hfx hP hG hD hA hret hl
  have hS : va_S AA ss.heap ss.heap [] := va_S.rf
  obtain ⟨H, eH⟩ : ∃ H, H = ss.heap := ⟨_, rfl⟩
  obtain ⟨locs, eL⟩ : ∃ L : List Loc, L = [] := ⟨_, rfl⟩
  have hP : va_P D vwCl [(a 0, eTop (a 1) (a 3) (a 5) (a 6) uw), (a 5, eQ cy 2 g), (q 0, eCli (gb (J)) (q 1) (q 3) (q 5) (q 7) dc (q 8) (q 9) k), (q 1, eScr (q 2)), (q 2, eJ cy 12 fo), (o9, eJ cy 1 fx9)] H := by rw [eH]; exact hP
  have hS : va_S AA ss.heap H locs := by rw [eH, eL]; exact hS
  have goal : ∀ X Y, X = H → Y = locs → W pp l ee ({ frames := 3, cells := 0, slots := 0, locals := 67 } : Room) ss mm ([.ref (a 0), .int (nI i), .int (nI c), .int (nI r), .ref o9] : List Value).toArray bw mt cd X Y 0 0 QQ (F0 mm 0 ls []) → W pp l ee ({ frames := 3, cells := 0, slots := 0, locals := 67 } : Room) ss mm ([.ref (a 0), .int (nI i), .int (nI c), .int (nI r), .ref o9] : List Value).toArray bw mt cd ss.heap [] 0 0 QQ (F0 mm 0 ls []) := fun X Y hX hY h => by rw [hX, hY, eH, eL] at h; exact h
  refine goal H locs rfl rfl ?_
  clear goal eH eL
  obtain ⟨hx, hb, hml, hown, hts, hlocks⟩ := hfx
  have hown : ss.vm.findClass RL = some mm.cls := hown
  have hl : lv_has ls 6 [(0, .ref (a 0)), (1, .int (nI i)), (2, .int (nI c)), (3, .int (nI r)), (4, .ref o9)] := hl
  refine lv_aload hx hb dL_shown_0 (lv_at hl 4 rfl) ?_
  refine lv_iconst (v := nI 0) hx hb dL_shown_2 (by decide) ?_
  refine lv_aload_n hx hb dL_shown_3 rfl (lv_at hl 0 rfl) ?_
  refine lv_iload_n hx hb dL_shown_4 rfl (lv_at hl 1 rfl) ?_
  refine lv_iload_n hx hb dL_shown_5 rfl (lv_at hl 2 rfl) ?_
  refine lv_iload_n hx hb dL_shown_6 rfl (lv_at hl 3 rfl) ?_
  refine gc_Si (va_runV (As := [.int (nI i), .int (nI c), .int (nI r)]) (rest := [.int (nI 0), .ref o9]) ⟨hx, hb, hml, hown, hts⟩ (c_X3_shown l D cy a q uw g J dc k i c r fo hi hg hJ hc hr) (cwV 3 hts gL_shown_X3_shown rfl rfl rfl (by decide +kernel) ⟨Nat.le_of_ble_eq_true rfl, Nat.le_of_ble_eq_true rfl⟩) (gpVR (ci := 3) (q0 := 0) hG (hP.sub [0, 1, 2, 3, 4] rfl) rfl rfl) rfl rfl hl.1 rfl (lv_room (Nat.le_of_ble_eq_true rfl)) dL_shown_7 ⟨Nat.zero_le _, Nat.zero_le _⟩) ?_
  refine lv_i2l hx hb dL_shown_10 rfl ?_
  refine g_last hx hb hG hP hD hS 5 1 rfl rfl (k := 0) (by omega) (by decide) dL_shown_11 (fun H locs hP hD hS => ?_)
  have hP : va_P D vwCl [(a 0, eTop (a 1) (a 3) (a 5) (a 6) uw), (a 5, eQ cy 2 g), (q 0, eCli (gb (J)) (q 1) (q 3) (q 5) (q 7) dc (q 8) (q 9) k), (q 1, eScr (q 2)), (q 2, eJ cy 12 fo), (o9, eJ cy 1 (vp_updL fx9 0 ((nI (cel (fo (tl c r)) (plc c r))).toInt64)))] H := hP
  have hD : va_D AA [(a 0, eTop (a 1) (a 3) (a 5) (a 6) uw), (a 5, eQ cy 2 g), (q 0, eCli (gb (J)) (q 1) (q 3) (q 5) (q 7) dc (q 8) (q 9) k), (q 1, eScr (q 2)), (q 2, eJ cy 12 fo), (o9, eJ cy 1 (vp_updL fx9 0 ((nI (cel (fo (tl c r)) (plc c r))).toInt64)))] := hD
  refine lv_goto (tgt := 23) hx hb dL_shown_12 (by decide) ?_
  refine lv_iconst (v := nI 0) hx hb dL_shown_23 (by decide) ?_
  exact hret _ _ _ _ _ () dL_shown_24 (⟨rfl, trivial⟩) (hP.sub [0, 1, 2, 3, 4, 5] rfl) (hD.sub [0, 1, 2, 3, 4, 5] (by decide) rfl) hS
set_option maxHeartbeats 4000000 in
set_option maxRecDepth 100000 in
theorem cx_L_shown (l : Launch) (hst : l.stackTraces = false) (D : va_G) (cy : Nat → ClassId) (sa : Nat → Nat) (sz : Nat) (a : Nat → Nat) (uw : Int32) (i c r : Int32) (o9 : Nat) (hn : ¬ (pIn i 0 1 ∧ pCell c r)) : Met l yL_shown wsL_shown ({ frames := 8, cells := 1, slots := 6, locals := 133 } : Room) (va_Pc [.ref (a 0), .int i, .int c, .int r, .ref o9] (gXw D (gT cy) sa [(a 0, eTop (a 1) (a 3) (a 5) (a 6) uw)] sz)) (va_Qi (fun (r9 : Int32) (_ : Unit) => r9 = nI 1) (fun _ _ => True) (fun q => sz ≤ q)) 1 6 (fun q => sz ≤ q) := by
  refine gH_x (cc := cL_shown) (maxL := 6) (hh := [(0, 12, 15, 13), (0, 12, 19, 33)]) (kx := nI 1) (by decide) rfl (Nat.le_of_ble_eq_true rfl) ?_
  intro pp ee ss mm bw mt cd QQ ls hfx hP hG hE hN hT hret hl
  obtain ⟨hx, hb, hml, hown, hts, hlocks⟩ := hfx
  have hown : ss.vm.findClass RL = some mm.cls := hown
  have hl : lv_has ls 6 [(0, .ref (a 0)), (1, .int i), (2, .int c), (3, .int r), (4, .ref o9)] := hl
  refine lv_aload hx hb dL_shown_0 (lv_at hl 4 rfl) ?_
  refine lv_iconst (v := nI 0) hx hb dL_shown_2 (by decide) ?_
  refine lv_aload_n hx hb dL_shown_3 rfl (lv_at hl 0 rfl) ?_
  refine lv_iload_n hx hb dL_shown_4 rfl (lv_at hl 1 rfl) ?_
  refine lv_iload_n hx hb dL_shown_5 rfl (lv_at hl 2 rfl) ?_
  refine lv_iload_n hx hb dL_shown_6 rfl (lv_at hl 3 rfl) ?_
  refine gx_catch (own := RL) (name := xIA) (fun _ _ _ h => h) (vx_runV (As := [.int i, .int c, .int r]) (rest := [.int (nI 0), .ref o9]) ⟨hx, hb, hml, hown, hts⟩ (cx_X3_shown l hst D cy sa ss.heap.size (a 0) i c r hn) (cwV 3 hts gL_shown_X3_shown rfl rfl rfl (by decide +kernel) ⟨Nat.le_of_ble_eq_true rfl, Nat.le_of_ble_eq_true rfl⟩) (gpVY (ci := 3) (q0 := 0) hG hE (hP.sub [] rfl) hP rfl rfl) rfl rfl hl.1 rfl (lv_room (Nat.le_of_ble_eq_true rfl)) dL_shown_7 ⟨Nat.le_of_ble_eq_true rfl, Nat.le_of_ble_eq_true rfl⟩) hown [] ⟨0, 12, 15, 13⟩ [⟨0, 12, 19, 33⟩] (hT.trans rfl) (fun _ h9 => absurd h9 List.not_mem_nil) rfl (by decide) (hts (.classLink RL 13 xIA) (by decide +kernel)) (gcast hE.2.2.2.2.2.1) (fun H locs q9 hS => ?_)
  refine lv_astore (lv' := [(5, .ref q9), (0, .ref (a 0)), (1, .int i), (2, .int c), (3, .int r), (4, .ref o9)]) hx hb dL_shown_15 hl (by decide) rfl (fun ls hl => ?_)
  refine lv_iconst (v := nI 1) hx hb dL_shown_17 (by decide) ?_
  exact hret _ _ _ _ dL_shown_18 hS
set_option maxHeartbeats 4000000 in
set_option maxRecDepth 100000 in
theorem cx_L_shown_s (l : Launch) (hst : l.stackTraces = false) (D : va_G) (cy : Nat → ClassId) (sa : Nat → Nat) (sz : Nat) (a q : Nat → Nat) (uw : Int32) (g : Nat → Option Nat) (J : Prop) (dc k : Int32) (i : Nat) (c r : Nat) (o9 : Nat) (hi : i < 2) (hg : g i = some (q 0)) (hJ : ¬ J) (hc : c < 16) (hr : r < 12) : Met l yL_shown wsL_shown ({ frames := 8, cells := 1, slots := 6, locals := 133 } : Room) (va_Pc [.ref (a 0), .int (nI i), .int (nI c), .int (nI r), .ref o9] (gXw D (gT cy) sa [(a 0, eTop (a 1) (a 3) (a 5) (a 6) uw), (a 5, eQ cy 2 g), (q 0, eCli (gb (J)) (q 1) (q 3) (q 5) (q 7) dc (q 8) (q 9) k)] sz)) (va_Qi (fun (r9 : Int32) (_ : Unit) => r9 = nI 2) (fun _ _ => True) (fun q => sz ≤ q)) 1 6 (fun q => sz ≤ q) := by
  refine gH_x (cc := cL_shown) (maxL := 6) (hh := [(0, 12, 15, 13), (0, 12, 19, 33)]) (kx := nI 2) (by decide) rfl (Nat.le_of_ble_eq_true rfl) ?_
  intro pp ee ss mm bw mt cd QQ ls hfx hP hG hE hN hT hret hl
  obtain ⟨hx, hb, hml, hown, hts, hlocks⟩ := hfx
  have hown : ss.vm.findClass RL = some mm.cls := hown
  have hl : lv_has ls 6 [(0, .ref (a 0)), (1, .int (nI i)), (2, .int (nI c)), (3, .int (nI r)), (4, .ref o9)] := hl
  refine lv_aload hx hb dL_shown_0 (lv_at hl 4 rfl) ?_
  refine lv_iconst (v := nI 0) hx hb dL_shown_2 (by decide) ?_
  refine lv_aload_n hx hb dL_shown_3 rfl (lv_at hl 0 rfl) ?_
  refine lv_iload_n hx hb dL_shown_4 rfl (lv_at hl 1 rfl) ?_
  refine lv_iload_n hx hb dL_shown_5 rfl (lv_at hl 2 rfl) ?_
  refine lv_iload_n hx hb dL_shown_6 rfl (lv_at hl 3 rfl) ?_
  refine gx_catch (own := RL) (name := xIS) (fun _ _ _ h => h) (vx_runV (As := [.int (nI i), .int (nI c), .int (nI r)]) (rest := [.int (nI 0), .ref o9]) ⟨hx, hb, hml, hown, hts⟩ (cx_X3_shown_s l hst D cy sa ss.heap.size a q uw g J dc k i c r hi hg hJ hc hr) (cwV 3 hts gL_shown_X3_shown rfl rfl rfl (by decide +kernel) ⟨Nat.le_of_ble_eq_true rfl, Nat.le_of_ble_eq_true rfl⟩) (gpVY (ci := 3) (q0 := 0) hG hE (hP.sub [0, 1, 2] rfl) hP rfl rfl) rfl rfl hl.1 rfl (lv_room (Nat.le_of_ble_eq_true rfl)) dL_shown_7 ⟨Nat.le_of_ble_eq_true rfl, Nat.le_of_ble_eq_true rfl⟩) hown [⟨0, 12, 15, 13⟩] ⟨0, 12, 19, 33⟩ [] (hT.trans rfl) ((List.forall_mem_cons.mpr ⟨Or.inr ⟨by decide, xIA, hts (.classLink RL 13 xIA) (by decide +kernel), hN.1⟩, fun _ h9 => absurd h9 List.not_mem_nil⟩)) rfl (by decide) (hts (.classLink RL 33 xIS) (by decide +kernel)) (gcast hE.2.2.2.2.2.2.1) (fun H locs q9 hS => ?_)
  refine lv_astore (lv' := [(5, .ref q9), (0, .ref (a 0)), (1, .int (nI i)), (2, .int (nI c)), (3, .int (nI r)), (4, .ref o9)]) hx hb dL_shown_19 hl (by decide) rfl (fun ls hl => ?_)
  refine lv_iconst (v := nI 2) hx hb dL_shown_21 (by decide) ?_
  exact hret _ _ _ _ dL_shown_22 hS
set_option maxHeartbeats 4000000 in
set_option maxRecDepth 100000 in
theorem c_L_dirty (l : Launch) (D : va_G) (cy : Nat → ClassId) (sz : Nat) (a q : Nat → Nat) (uw : Int32) (g : Nat → Option Nat) (J : Prop) (dc k : Int32) (i : Nat) (o9 : Nat) (fx9 : Nat → Int64) (hi : i < 2) (hg : g i = some (q 0)) (hJ : J) : Met l yL_dirty wsL_dirty ({ frames := 2, cells := 0, slots := 0, locals := 42 } : Room) (va_Pc [.ref (a 0), .int (nI i), .ref o9] (gI D (gT cy) [(a 0, eTop (a 1) (a 3) (a 5) (a 6) uw), (a 5, eQ cy 2 g), (q 0, eCli (gb (J)) (q 1) (q 3) (q 5) (q 7) dc (q 8) (q 9) k), (o9, eJ cy 1 fx9)] sz)) (va_Qi (fun (r9 : Int32) (u : Unit) => r9 = nI 0 ∧ ((True))) (gO D (fun u : Unit => [(a 0, eTop (a 1) (a 3) (a 5) (a 6) uw), (a 5, eQ cy 2 g), (q 0, eCli (gb (J)) (q 1) (q 3) (q 5) (q 7) dc (q 8) (q 9) k), (o9, eJ cy 1 (vp_updL fx9 0 ((dc).toInt64)))]) (va_A [(a 0, eTop (a 1) (a 3) (a 5) (a 6) uw), (a 5, eQ cy 2 g), (q 0, eCli (gb (J)) (q 1) (q 3) (q 5) (q 7) dc (q 8) (q 9) k), (o9, eJ cy 1 fx9)] sz)) (va_A [(a 0, eTop (a 1) (a 3) (a 5) (a 6) uw), (a 5, eQ cy 2 g), (q 0, eCli (gb (J)) (q 1) (q 3) (q 5) (q 7) dc (q 8) (q 9) k), (o9, eJ cy 1 fx9)] sz)) 0 0 (va_A [(a 0, eTop (a 1) (a 3) (a 5) (a 6) uw), (a 5, eQ cy 2 g), (q 0, eCli (gb (J)) (q 1) (q 3) (q 5) (q 7) dc (q 8) (q 9) k), (o9, eJ cy 1 fx9)] sz) := by
  refine gH_i (cc := cL_dirty) (maxL := 4) (hh := [(0, 9, 12, 13), (0, 9, 15, 33)]) (by decide) rfl (Nat.le_of_ble_eq_true rfl) ?_
  intro pp ee ss mm bw mt cd QQ AA ls hfx hP hG hD hA hret hl
  have hS : va_S AA ss.heap ss.heap [] := va_S.rf
  obtain ⟨H, eH⟩ : ∃ H, H = ss.heap := ⟨_, rfl⟩
  obtain ⟨locs, eL⟩ : ∃ L : List Loc, L = [] := ⟨_, rfl⟩
  have hP : va_P D vwCl [(a 0, eTop (a 1) (a 3) (a 5) (a 6) uw), (a 5, eQ cy 2 g), (q 0, eCli (gb (J)) (q 1) (q 3) (q 5) (q 7) dc (q 8) (q 9) k), (o9, eJ cy 1 fx9)] H := by rw [eH]; exact hP
  have hS : va_S AA ss.heap H locs := by rw [eH, eL]; exact hS
  have goal : ∀ X Y, X = H → Y = locs → W pp l ee ({ frames := 2, cells := 0, slots := 0, locals := 42 } : Room) ss mm ([.ref (a 0), .int (nI i), .ref o9] : List Value).toArray bw mt cd X Y 0 0 QQ (F0 mm 0 ls []) → W pp l ee ({ frames := 2, cells := 0, slots := 0, locals := 42 } : Room) ss mm ([.ref (a 0), .int (nI i), .ref o9] : List Value).toArray bw mt cd ss.heap [] 0 0 QQ (F0 mm 0 ls []) := fun X Y hX hY h => by rw [hX, hY, eH, eL] at h; exact h
  refine goal H locs rfl rfl ?_
  clear goal eH eL
  obtain ⟨hx, hb, hml, hown, hts, hlocks⟩ := hfx
  have hown : ss.vm.findClass RL = some mm.cls := hown
  have hl : lv_has ls 4 [(0, .ref (a 0)), (1, .int (nI i)), (2, .ref o9)] := hl
  refine lv_aload_n hx hb dL_dirty_0 rfl (lv_at hl 2 rfl) ?_
  refine lv_iconst (v := nI 0) hx hb dL_dirty_1 (by decide) ?_
  refine lv_aload_n hx hb dL_dirty_2 rfl (lv_at hl 0 rfl) ?_
  refine lv_iload_n hx hb dL_dirty_3 rfl (lv_at hl 1 rfl) ?_
  refine gc_Si (va_runV (As := [.int (nI i)]) (rest := [.int (nI 0), .ref o9]) ⟨hx, hb, hml, hown, hts⟩ (c_X3_dirty l D cy a q uw g J dc k i hi hg hJ) (cwV 1 hts gL_dirty_X3_dirty rfl rfl rfl (by decide +kernel) ⟨Nat.le_of_ble_eq_true rfl, Nat.le_of_ble_eq_true rfl⟩) (gpVR (ci := 3) (q0 := 0) hG (hP.sub [0, 1, 2] rfl) rfl rfl) rfl rfl hl.1 rfl (lv_room (Nat.le_of_ble_eq_true rfl)) dL_dirty_4 ⟨Nat.zero_le _, Nat.zero_le _⟩) ?_
  refine lv_i2l hx hb dL_dirty_7 rfl ?_
  refine g_last hx hb hG hP hD hS 3 1 rfl rfl (k := 0) (by omega) (by decide) dL_dirty_8 (fun H locs hP hD hS => ?_)
  have hP : va_P D vwCl [(a 0, eTop (a 1) (a 3) (a 5) (a 6) uw), (a 5, eQ cy 2 g), (q 0, eCli (gb (J)) (q 1) (q 3) (q 5) (q 7) dc (q 8) (q 9) k), (o9, eJ cy 1 (vp_updL fx9 0 dc.toInt64))] H := hP
  have hD : va_D AA [(a 0, eTop (a 1) (a 3) (a 5) (a 6) uw), (a 5, eQ cy 2 g), (q 0, eCli (gb (J)) (q 1) (q 3) (q 5) (q 7) dc (q 8) (q 9) k), (o9, eJ cy 1 (vp_updL fx9 0 dc.toInt64))] := hD
  refine lv_goto (tgt := 18) hx hb dL_dirty_9 (by decide) ?_
  refine lv_iconst (v := nI 0) hx hb dL_dirty_18 (by decide) ?_
  exact hret _ _ _ _ _ () dL_dirty_19 (⟨rfl, trivial⟩) (hP.sub [0, 1, 2, 3] rfl) (hD.sub [0, 1, 2, 3] (by decide) rfl) hS
set_option maxHeartbeats 4000000 in
set_option maxRecDepth 100000 in
theorem cx_L_dirty (l : Launch) (hst : l.stackTraces = false) (D : va_G) (cy : Nat → ClassId) (sa : Nat → Nat) (sz : Nat) (a : Nat → Nat) (uw : Int32) (i : Int32) (o9 : Nat) (hn : ¬ pIn i 0 1) : Met l yL_dirty wsL_dirty ({ frames := 8, cells := 1, slots := 6, locals := 131 } : Room) (va_Pc [.ref (a 0), .int i, .ref o9] (gXw D (gT cy) sa [(a 0, eTop (a 1) (a 3) (a 5) (a 6) uw)] sz)) (va_Qi (fun (r9 : Int32) (_ : Unit) => r9 = nI 1) (fun _ _ => True) (fun q => sz ≤ q)) 1 6 (fun q => sz ≤ q) := by
  refine gH_x (cc := cL_dirty) (maxL := 4) (hh := [(0, 9, 12, 13), (0, 9, 15, 33)]) (kx := nI 1) (by decide) rfl (Nat.le_of_ble_eq_true rfl) ?_
  intro pp ee ss mm bw mt cd QQ ls hfx hP hG hE hN hT hret hl
  obtain ⟨hx, hb, hml, hown, hts, hlocks⟩ := hfx
  have hown : ss.vm.findClass RL = some mm.cls := hown
  have hl : lv_has ls 4 [(0, .ref (a 0)), (1, .int i), (2, .ref o9)] := hl
  refine lv_aload_n hx hb dL_dirty_0 rfl (lv_at hl 2 rfl) ?_
  refine lv_iconst (v := nI 0) hx hb dL_dirty_1 (by decide) ?_
  refine lv_aload_n hx hb dL_dirty_2 rfl (lv_at hl 0 rfl) ?_
  refine lv_iload_n hx hb dL_dirty_3 rfl (lv_at hl 1 rfl) ?_
  refine gx_catch (own := RL) (name := xIA) (fun _ _ _ h => h) (vx_runV (As := [.int i]) (rest := [.int (nI 0), .ref o9]) ⟨hx, hb, hml, hown, hts⟩ (cx_X3_dirty l hst D cy sa ss.heap.size (a 0) i hn) (cwV 1 hts gL_dirty_X3_dirty rfl rfl rfl (by decide +kernel) ⟨Nat.le_of_ble_eq_true rfl, Nat.le_of_ble_eq_true rfl⟩) (gpVY (ci := 3) (q0 := 0) hG hE (hP.sub [] rfl) hP rfl rfl) rfl rfl hl.1 rfl (lv_room (Nat.le_of_ble_eq_true rfl)) dL_dirty_4 ⟨Nat.le_of_ble_eq_true rfl, Nat.le_of_ble_eq_true rfl⟩) hown [] ⟨0, 9, 12, 13⟩ [⟨0, 9, 15, 33⟩] (hT.trans rfl) (fun _ h9 => absurd h9 List.not_mem_nil) rfl (by decide) (hts (.classLink RL 13 xIA) (by decide +kernel)) (gcast hE.2.2.2.2.2.1) (fun H locs q9 hS => ?_)
  refine lv_astore_n (lv' := [(3, .ref q9), (0, .ref (a 0)), (1, .int i), (2, .ref o9)]) hx hb dL_dirty_12 rfl hl (by decide) rfl (fun ls hl => ?_)
  refine lv_iconst (v := nI 1) hx hb dL_dirty_13 (by decide) ?_
  exact hret _ _ _ _ dL_dirty_14 hS
set_option maxHeartbeats 4000000 in
set_option maxRecDepth 100000 in
theorem cx_L_dirty_s (l : Launch) (hst : l.stackTraces = false) (D : va_G) (cy : Nat → ClassId) (sa : Nat → Nat) (sz : Nat) (a q : Nat → Nat) (uw : Int32) (g : Nat → Option Nat) (J : Prop) (dc k : Int32) (i : Nat) (o9 : Nat) (hi : i < 2) (hg : g i = some (q 0)) (hJ : ¬ J) : Met l yL_dirty wsL_dirty ({ frames := 8, cells := 1, slots := 6, locals := 131 } : Room) (va_Pc [.ref (a 0), .int (nI i), .ref o9] (gXw D (gT cy) sa [(a 0, eTop (a 1) (a 3) (a 5) (a 6) uw), (a 5, eQ cy 2 g), (q 0, eCli (gb (J)) (q 1) (q 3) (q 5) (q 7) dc (q 8) (q 9) k)] sz)) (va_Qi (fun (r9 : Int32) (_ : Unit) => r9 = nI 2) (fun _ _ => True) (fun q => sz ≤ q)) 1 6 (fun q => sz ≤ q) := by
  refine gH_x (cc := cL_dirty) (maxL := 4) (hh := [(0, 9, 12, 13), (0, 9, 15, 33)]) (kx := nI 2) (by decide) rfl (Nat.le_of_ble_eq_true rfl) ?_
  intro pp ee ss mm bw mt cd QQ ls hfx hP hG hE hN hT hret hl
  obtain ⟨hx, hb, hml, hown, hts, hlocks⟩ := hfx
  have hown : ss.vm.findClass RL = some mm.cls := hown
  have hl : lv_has ls 4 [(0, .ref (a 0)), (1, .int (nI i)), (2, .ref o9)] := hl
  refine lv_aload_n hx hb dL_dirty_0 rfl (lv_at hl 2 rfl) ?_
  refine lv_iconst (v := nI 0) hx hb dL_dirty_1 (by decide) ?_
  refine lv_aload_n hx hb dL_dirty_2 rfl (lv_at hl 0 rfl) ?_
  refine lv_iload_n hx hb dL_dirty_3 rfl (lv_at hl 1 rfl) ?_
  refine gx_catch (own := RL) (name := xIS) (fun _ _ _ h => h) (vx_runV (As := [.int (nI i)]) (rest := [.int (nI 0), .ref o9]) ⟨hx, hb, hml, hown, hts⟩ (cx_X3_dirty_s l hst D cy sa ss.heap.size a q uw g J dc k i hi hg hJ) (cwV 1 hts gL_dirty_X3_dirty rfl rfl rfl (by decide +kernel) ⟨Nat.le_of_ble_eq_true rfl, Nat.le_of_ble_eq_true rfl⟩) (gpVY (ci := 3) (q0 := 0) hG hE (hP.sub [0, 1, 2] rfl) hP rfl rfl) rfl rfl hl.1 rfl (lv_room (Nat.le_of_ble_eq_true rfl)) dL_dirty_4 ⟨Nat.le_of_ble_eq_true rfl, Nat.le_of_ble_eq_true rfl⟩) hown [⟨0, 9, 12, 13⟩] ⟨0, 9, 15, 33⟩ [] (hT.trans rfl) ((List.forall_mem_cons.mpr ⟨Or.inr ⟨by decide, xIA, hts (.classLink RL 13 xIA) (by decide +kernel), hN.1⟩, fun _ h9 => absurd h9 List.not_mem_nil⟩)) rfl (by decide) (hts (.classLink RL 33 xIS) (by decide +kernel)) (gcast hE.2.2.2.2.2.2.1) (fun H locs q9 hS => ?_)
  refine lv_astore_n (lv' := [(3, .ref q9), (0, .ref (a 0)), (1, .int (nI i)), (2, .ref o9)]) hx hb dL_dirty_15 rfl hl (by decide) rfl (fun ls hl => ?_)
  refine lv_iconst (v := nI 2) hx hb dL_dirty_16 (by decide) ?_
  exact hret _ _ _ _ dL_dirty_17 hS
set_option maxHeartbeats 4000000 in
set_option maxRecDepth 100000 in
theorem c_L_dirtyAt (l : Launch) (D : va_G) (cy : Nat → ClassId) (sz : Nat) (a q : Nat → Nat) (uw : Int32) (g : Nat → Option Nat) (J : Prop) (k : Int32) (i : Nat) (L : List Nat) (f : Nat → Int32) (j : Nat) (o9 : Nat) (fx9 : Nat → Int64) (hi : i < 2) (hg : g i = some (q 0)) (hJ : J) (hL : hN L f) (ho : okD L) (hj : j < L.length) : Met l yL_dirtyAt wsL_dirtyAt ({ frames := 2, cells := 0, slots := 0, locals := 43 } : Room) (va_Pc [.ref (a 0), .int (nI i), .int (nI j), .ref o9] (gI D (gT cy) [(a 0, eTop (a 1) (a 3) (a 5) (a 6) uw), (a 5, eQ cy 2 g), (q 0, eCli (gb (J)) (q 1) (q 3) (q 5) (q 7) (nI L.length) (q 8) (q 9) k), (q 7, eI cy 12 f), (o9, eJ cy 1 fx9)] sz)) (va_Qi (fun (r9 : Int32) (u : Unit) => r9 = nI 0 ∧ ((True))) (gO D (fun u : Unit => [(a 0, eTop (a 1) (a 3) (a 5) (a 6) uw), (a 5, eQ cy 2 g), (q 0, eCli (gb (J)) (q 1) (q 3) (q 5) (q 7) (nI L.length) (q 8) (q 9) k), (q 7, eI cy 12 f), (o9, eJ cy 1 (vp_updL fx9 0 ((nI (L.getD j 0)).toInt64)))]) (va_A [(a 0, eTop (a 1) (a 3) (a 5) (a 6) uw), (a 5, eQ cy 2 g), (q 0, eCli (gb (J)) (q 1) (q 3) (q 5) (q 7) (nI L.length) (q 8) (q 9) k), (q 7, eI cy 12 f), (o9, eJ cy 1 fx9)] sz)) (va_A [(a 0, eTop (a 1) (a 3) (a 5) (a 6) uw), (a 5, eQ cy 2 g), (q 0, eCli (gb (J)) (q 1) (q 3) (q 5) (q 7) (nI L.length) (q 8) (q 9) k), (q 7, eI cy 12 f), (o9, eJ cy 1 fx9)] sz)) 0 0 (va_A [(a 0, eTop (a 1) (a 3) (a 5) (a 6) uw), (a 5, eQ cy 2 g), (q 0, eCli (gb (J)) (q 1) (q 3) (q 5) (q 7) (nI L.length) (q 8) (q 9) k), (q 7, eI cy 12 f), (o9, eJ cy 1 fx9)] sz) := by
  refine gH_i (cc := cL_dirtyAt) (maxL := 5) (hh := [(0, 10, 13, 13), (0, 10, 17, 33), (0, 10, 21, 57)]) (by decide) rfl (Nat.le_of_ble_eq_true rfl) ?_
  intro pp ee ss mm bw mt cd QQ AA ls hfx hP hG hD hA hret hl
  have hS : va_S AA ss.heap ss.heap [] := va_S.rf
  obtain ⟨H, eH⟩ : ∃ H, H = ss.heap := ⟨_, rfl⟩
  obtain ⟨locs, eL⟩ : ∃ L : List Loc, L = [] := ⟨_, rfl⟩
  have hP : va_P D vwCl [(a 0, eTop (a 1) (a 3) (a 5) (a 6) uw), (a 5, eQ cy 2 g), (q 0, eCli (gb (J)) (q 1) (q 3) (q 5) (q 7) (nI L.length) (q 8) (q 9) k), (q 7, eI cy 12 f), (o9, eJ cy 1 fx9)] H := by rw [eH]; exact hP
  have hS : va_S AA ss.heap H locs := by rw [eH, eL]; exact hS
  have goal : ∀ X Y, X = H → Y = locs → W pp l ee ({ frames := 2, cells := 0, slots := 0, locals := 43 } : Room) ss mm ([.ref (a 0), .int (nI i), .int (nI j), .ref o9] : List Value).toArray bw mt cd X Y 0 0 QQ (F0 mm 0 ls []) → W pp l ee ({ frames := 2, cells := 0, slots := 0, locals := 43 } : Room) ss mm ([.ref (a 0), .int (nI i), .int (nI j), .ref o9] : List Value).toArray bw mt cd ss.heap [] 0 0 QQ (F0 mm 0 ls []) := fun X Y hX hY h => by rw [hX, hY, eH, eL] at h; exact h
  refine goal H locs rfl rfl ?_
  clear goal eH eL
  obtain ⟨hx, hb, hml, hown, hts, hlocks⟩ := hfx
  have hown : ss.vm.findClass RL = some mm.cls := hown
  have hl : lv_has ls 5 [(0, .ref (a 0)), (1, .int (nI i)), (2, .int (nI j)), (3, .ref o9)] := hl
  refine lv_aload_n hx hb dL_dirtyAt_0 rfl (lv_at hl 3 rfl) ?_
  refine lv_iconst (v := nI 0) hx hb dL_dirtyAt_1 (by decide) ?_
  refine lv_aload_n hx hb dL_dirtyAt_2 rfl (lv_at hl 0 rfl) ?_
  refine lv_iload_n hx hb dL_dirtyAt_3 rfl (lv_at hl 1 rfl) ?_
  refine lv_iload_n hx hb dL_dirtyAt_4 rfl (lv_at hl 2 rfl) ?_
  refine gc_Si (va_runV (As := [.int (nI i), .int (nI j)]) (rest := [.int (nI 0), .ref o9]) ⟨hx, hb, hml, hown, hts⟩ (c_X3_dirtyAt l D cy a q uw g J k i L f j hi hg hJ hL ho hj) (cwV 2 hts gL_dirtyAt_X3_dirtyAt rfl rfl rfl (by decide +kernel) ⟨Nat.le_of_ble_eq_true rfl, Nat.le_of_ble_eq_true rfl⟩) (gpVR (ci := 3) (q0 := 0) hG (hP.sub [0, 1, 2, 3] rfl) rfl rfl) rfl rfl hl.1 rfl (lv_room (Nat.le_of_ble_eq_true rfl)) dL_dirtyAt_5 ⟨Nat.zero_le _, Nat.zero_le _⟩) ?_
  refine lv_i2l hx hb dL_dirtyAt_8 rfl ?_
  refine g_last hx hb hG hP hD hS 4 1 rfl rfl (k := 0) (by omega) (by decide) dL_dirtyAt_9 (fun H locs hP hD hS => ?_)
  have hP : va_P D vwCl [(a 0, eTop (a 1) (a 3) (a 5) (a 6) uw), (a 5, eQ cy 2 g), (q 0, eCli (gb (J)) (q 1) (q 3) (q 5) (q 7) (nI L.length) (q 8) (q 9) k), (q 7, eI cy 12 f), (o9, eJ cy 1 (vp_updL fx9 0 ((nI (L.getD j 0)).toInt64)))] H := hP
  have hD : va_D AA [(a 0, eTop (a 1) (a 3) (a 5) (a 6) uw), (a 5, eQ cy 2 g), (q 0, eCli (gb (J)) (q 1) (q 3) (q 5) (q 7) (nI L.length) (q 8) (q 9) k), (q 7, eI cy 12 f), (o9, eJ cy 1 (vp_updL fx9 0 ((nI (L.getD j 0)).toInt64)))] := hD
  refine lv_goto (tgt := 25) hx hb dL_dirtyAt_10 (by decide) ?_
  refine lv_iconst (v := nI 0) hx hb dL_dirtyAt_25 (by decide) ?_
  exact hret _ _ _ _ _ () dL_dirtyAt_26 (⟨rfl, trivial⟩) (hP.sub [0, 1, 2, 3, 4] rfl) (hD.sub [0, 1, 2, 3, 4] (by decide) rfl) hS
set_option maxHeartbeats 4000000 in
set_option maxRecDepth 100000 in
theorem cx_L_dirtyAt (l : Launch) (hst : l.stackTraces = false) (D : va_G) (cy : Nat → ClassId) (sa : Nat → Nat) (sz : Nat) (a : Nat → Nat) (uw : Int32) (i j : Int32) (o9 : Nat) (hn : ¬ pIn i 0 1) : Met l yL_dirtyAt wsL_dirtyAt ({ frames := 8, cells := 1, slots := 6, locals := 132 } : Room) (va_Pc [.ref (a 0), .int i, .int j, .ref o9] (gXw D (gT cy) sa [(a 0, eTop (a 1) (a 3) (a 5) (a 6) uw)] sz)) (va_Qi (fun (r9 : Int32) (_ : Unit) => r9 = nI 1) (fun _ _ => True) (fun q => sz ≤ q)) 1 6 (fun q => sz ≤ q) := by
  refine gH_x (cc := cL_dirtyAt) (maxL := 5) (hh := [(0, 10, 13, 13), (0, 10, 17, 33), (0, 10, 21, 57)]) (kx := nI 1) (by decide) rfl (Nat.le_of_ble_eq_true rfl) ?_
  intro pp ee ss mm bw mt cd QQ ls hfx hP hG hE hN hT hret hl
  obtain ⟨hx, hb, hml, hown, hts, hlocks⟩ := hfx
  have hown : ss.vm.findClass RL = some mm.cls := hown
  have hl : lv_has ls 5 [(0, .ref (a 0)), (1, .int i), (2, .int j), (3, .ref o9)] := hl
  refine lv_aload_n hx hb dL_dirtyAt_0 rfl (lv_at hl 3 rfl) ?_
  refine lv_iconst (v := nI 0) hx hb dL_dirtyAt_1 (by decide) ?_
  refine lv_aload_n hx hb dL_dirtyAt_2 rfl (lv_at hl 0 rfl) ?_
  refine lv_iload_n hx hb dL_dirtyAt_3 rfl (lv_at hl 1 rfl) ?_
  refine lv_iload_n hx hb dL_dirtyAt_4 rfl (lv_at hl 2 rfl) ?_
  refine gx_catch (own := RL) (name := xIA) (fun _ _ _ h => h) (vx_runV (As := [.int i, .int j]) (rest := [.int (nI 0), .ref o9]) ⟨hx, hb, hml, hown, hts⟩ (cx_X3_dirtyAt l hst D cy sa ss.heap.size (a 0) i j hn) (cwV 2 hts gL_dirtyAt_X3_dirtyAt rfl rfl rfl (by decide +kernel) ⟨Nat.le_of_ble_eq_true rfl, Nat.le_of_ble_eq_true rfl⟩) (gpVY (ci := 3) (q0 := 0) hG hE (hP.sub [] rfl) hP rfl rfl) rfl rfl hl.1 rfl (lv_room (Nat.le_of_ble_eq_true rfl)) dL_dirtyAt_5 ⟨Nat.le_of_ble_eq_true rfl, Nat.le_of_ble_eq_true rfl⟩) hown [] ⟨0, 10, 13, 13⟩ [⟨0, 10, 17, 33⟩, ⟨0, 10, 21, 57⟩] (hT.trans rfl) (fun _ h9 => absurd h9 List.not_mem_nil) rfl (by decide) (hts (.classLink RL 13 xIA) (by decide +kernel)) (gcast hE.2.2.2.2.2.1) (fun H locs q9 hS => ?_)
  refine lv_astore (lv' := [(4, .ref q9), (0, .ref (a 0)), (1, .int i), (2, .int j), (3, .ref o9)]) hx hb dL_dirtyAt_13 hl (by decide) rfl (fun ls hl => ?_)
  refine lv_iconst (v := nI 1) hx hb dL_dirtyAt_15 (by decide) ?_
  exact hret _ _ _ _ dL_dirtyAt_16 hS
set_option maxHeartbeats 4000000 in
set_option maxRecDepth 100000 in
theorem cx_L_dirtyAt_s (l : Launch) (hst : l.stackTraces = false) (D : va_G) (cy : Nat → ClassId) (sa : Nat → Nat) (sz : Nat) (a q : Nat → Nat) (uw : Int32) (g : Nat → Option Nat) (J : Prop) (dc k : Int32) (i : Nat) (j : Int32) (o9 : Nat) (hi : i < 2) (hg : g i = some (q 0)) (hJ : ¬ J) : Met l yL_dirtyAt wsL_dirtyAt ({ frames := 8, cells := 1, slots := 6, locals := 132 } : Room) (va_Pc [.ref (a 0), .int (nI i), .int j, .ref o9] (gXw D (gT cy) sa [(a 0, eTop (a 1) (a 3) (a 5) (a 6) uw), (a 5, eQ cy 2 g), (q 0, eCli (gb (J)) (q 1) (q 3) (q 5) (q 7) dc (q 8) (q 9) k)] sz)) (va_Qi (fun (r9 : Int32) (_ : Unit) => r9 = nI 2) (fun _ _ => True) (fun q => sz ≤ q)) 1 6 (fun q => sz ≤ q) := by
  refine gH_x (cc := cL_dirtyAt) (maxL := 5) (hh := [(0, 10, 13, 13), (0, 10, 17, 33), (0, 10, 21, 57)]) (kx := nI 2) (by decide) rfl (Nat.le_of_ble_eq_true rfl) ?_
  intro pp ee ss mm bw mt cd QQ ls hfx hP hG hE hN hT hret hl
  obtain ⟨hx, hb, hml, hown, hts, hlocks⟩ := hfx
  have hown : ss.vm.findClass RL = some mm.cls := hown
  have hl : lv_has ls 5 [(0, .ref (a 0)), (1, .int (nI i)), (2, .int j), (3, .ref o9)] := hl
  refine lv_aload_n hx hb dL_dirtyAt_0 rfl (lv_at hl 3 rfl) ?_
  refine lv_iconst (v := nI 0) hx hb dL_dirtyAt_1 (by decide) ?_
  refine lv_aload_n hx hb dL_dirtyAt_2 rfl (lv_at hl 0 rfl) ?_
  refine lv_iload_n hx hb dL_dirtyAt_3 rfl (lv_at hl 1 rfl) ?_
  refine lv_iload_n hx hb dL_dirtyAt_4 rfl (lv_at hl 2 rfl) ?_
  refine gx_catch (own := RL) (name := xIS) (fun _ _ _ h => h) (vx_runV (As := [.int (nI i), .int j]) (rest := [.int (nI 0), .ref o9]) ⟨hx, hb, hml, hown, hts⟩ (cx_X3_dirtyAt_s l hst D cy sa ss.heap.size a q uw g J dc k i j hi hg hJ) (cwV 2 hts gL_dirtyAt_X3_dirtyAt rfl rfl rfl (by decide +kernel) ⟨Nat.le_of_ble_eq_true rfl, Nat.le_of_ble_eq_true rfl⟩) (gpVY (ci := 3) (q0 := 0) hG hE (hP.sub [0, 1, 2] rfl) hP rfl rfl) rfl rfl hl.1 rfl (lv_room (Nat.le_of_ble_eq_true rfl)) dL_dirtyAt_5 ⟨Nat.le_of_ble_eq_true rfl, Nat.le_of_ble_eq_true rfl⟩) hown [⟨0, 10, 13, 13⟩] ⟨0, 10, 17, 33⟩ [⟨0, 10, 21, 57⟩] (hT.trans rfl) ((List.forall_mem_cons.mpr ⟨Or.inr ⟨by decide, xIA, hts (.classLink RL 13 xIA) (by decide +kernel), hN.1⟩, fun _ h9 => absurd h9 List.not_mem_nil⟩)) rfl (by decide) (hts (.classLink RL 33 xIS) (by decide +kernel)) (gcast hE.2.2.2.2.2.2.1) (fun H locs q9 hS => ?_)
  refine lv_astore (lv' := [(4, .ref q9), (0, .ref (a 0)), (1, .int (nI i)), (2, .int j), (3, .ref o9)]) hx hb dL_dirtyAt_17 hl (by decide) rfl (fun ls hl => ?_)
  refine lv_iconst (v := nI 2) hx hb dL_dirtyAt_19 (by decide) ?_
  exact hret _ _ _ _ dL_dirtyAt_20 hS
set_option maxHeartbeats 4000000 in
set_option maxRecDepth 100000 in
theorem cx_L_dirtyAt_o (l : Launch) (hst : l.stackTraces = false) (D : va_G) (cy : Nat → ClassId) (sa : Nat → Nat) (sz : Nat) (a q : Nat → Nat) (uw : Int32) (g : Nat → Option Nat) (J : Prop) (k : Int32) (i n : Nat) (j : Int32) (o9 : Nat) (hi : i < 2) (hg : g i = some (q 0)) (hJ : J) (hn : n ≤ 12) (hj : ¬ pIn j 0 ((n : Int) - 1)) : Met l yL_dirtyAt wsL_dirtyAt ({ frames := 8, cells := 1, slots := 6, locals := 132 } : Room) (va_Pc [.ref (a 0), .int (nI i), .int j, .ref o9] (gXw D (gT cy) sa [(a 0, eTop (a 1) (a 3) (a 5) (a 6) uw), (a 5, eQ cy 2 g), (q 0, eCli (gb (J)) (q 1) (q 3) (q 5) (q 7) (nI n) (q 8) (q 9) k)] sz)) (va_Qi (fun (r9 : Int32) (_ : Unit) => r9 = nI 3) (fun _ _ => True) (fun q => sz ≤ q)) 1 6 (fun q => sz ≤ q) := by
  refine gH_x (cc := cL_dirtyAt) (maxL := 5) (hh := [(0, 10, 13, 13), (0, 10, 17, 33), (0, 10, 21, 57)]) (kx := nI 3) (by decide) rfl (Nat.le_of_ble_eq_true rfl) ?_
  intro pp ee ss mm bw mt cd QQ ls hfx hP hG hE hN hT hret hl
  obtain ⟨hx, hb, hml, hown, hts, hlocks⟩ := hfx
  have hown : ss.vm.findClass RL = some mm.cls := hown
  have hl : lv_has ls 5 [(0, .ref (a 0)), (1, .int (nI i)), (2, .int j), (3, .ref o9)] := hl
  refine lv_aload_n hx hb dL_dirtyAt_0 rfl (lv_at hl 3 rfl) ?_
  refine lv_iconst (v := nI 0) hx hb dL_dirtyAt_1 (by decide) ?_
  refine lv_aload_n hx hb dL_dirtyAt_2 rfl (lv_at hl 0 rfl) ?_
  refine lv_iload_n hx hb dL_dirtyAt_3 rfl (lv_at hl 1 rfl) ?_
  refine lv_iload_n hx hb dL_dirtyAt_4 rfl (lv_at hl 2 rfl) ?_
  refine gx_catch (own := RL) (name := xIO) (fun _ _ _ h => h) (vx_runV (As := [.int (nI i), .int j]) (rest := [.int (nI 0), .ref o9]) ⟨hx, hb, hml, hown, hts⟩ (cx_X3_dirtyAt_o l hst D cy sa ss.heap.size a q uw g J k i n j hi hg hJ hn hj) (cwV 2 hts gL_dirtyAt_X3_dirtyAt rfl rfl rfl (by decide +kernel) ⟨Nat.le_of_ble_eq_true rfl, Nat.le_of_ble_eq_true rfl⟩) (gpVY (ci := 3) (q0 := 0) hG hE (hP.sub [0, 1, 2] rfl) hP rfl rfl) rfl rfl hl.1 rfl (lv_room (Nat.le_of_ble_eq_true rfl)) dL_dirtyAt_5 ⟨Nat.le_of_ble_eq_true rfl, Nat.le_of_ble_eq_true rfl⟩) hown [⟨0, 10, 13, 13⟩, ⟨0, 10, 17, 33⟩] ⟨0, 10, 21, 57⟩ [] (hT.trans rfl) ((List.forall_mem_cons.mpr ⟨Or.inr ⟨by decide, xIA, hts (.classLink RL 13 xIA) (by decide +kernel), hN.2.1⟩, (List.forall_mem_cons.mpr ⟨Or.inr ⟨by decide, xIS, hts (.classLink RL 33 xIS) (by decide +kernel), hN.2.2⟩, fun _ h9 => absurd h9 List.not_mem_nil⟩)⟩)) rfl (by decide) (hts (.classLink RL 57 xIO) (by decide +kernel)) (gcast hE.2.2.2.2.2.2.2.1) (fun H locs q9 hS => ?_)
  refine lv_astore (lv' := [(4, .ref q9), (0, .ref (a 0)), (1, .int (nI i)), (2, .int j), (3, .ref o9)]) hx hb dL_dirtyAt_21 hl (by decide) rfl (fun ls hl => ?_)
  refine lv_iconst (v := nI 3) hx hb dL_dirtyAt_23 (by decide) ?_
  exact hret _ _ _ _ dL_dirtyAt_24 hS
set_option maxHeartbeats 4000000 in
set_option maxRecDepth 100000 in
theorem c_L_cached (l : Launch) (D : va_G) (cy : Nat → ClassId) (sz : Nat) (a q : Nat → Nat) (uw : Int32) (g : Nat → Option Nat) (J : Prop) (dc k : Int32) (i : Nat) (n : Nat) (f : Nat → Int64) (L : List Int64) (o9 : Nat) (fx9 : Nat → Int64) (hi : i < 2) (hg : g i = some (q 0)) (hJ : J) (hf : hC L f) (hL : L.length ≤ 6) : Met l yL_cached wsL_cached ({ frames := 2, cells := 0, slots := 0, locals := 42 } : Room) (va_Pc [.ref (a 0), .int (nI i), .ref o9] (gI D (gT cy) [(a 0, eTop (a 1) (a 3) (a 5) (a 6) uw), (a 5, eQ cy 2 g), (q 0, eCli (gb (J)) (q 1) (q 3) (q 5) (q 7) dc (q 8) (q 9) k), (q 3, eCch (q 4) (nI L.length)), (q 4, eJ cy 6 f), (o9, eJ cy 1 fx9)] sz)) (va_Qi (fun (r9 : Int32) (u : Unit) => r9 = nI 0 ∧ ((True))) (gO D (fun u : Unit => [(a 0, eTop (a 1) (a 3) (a 5) (a 6) uw), (a 5, eQ cy 2 g), (q 0, eCli (gb (J)) (q 1) (q 3) (q 5) (q 7) dc (q 8) (q 9) k), (q 3, eCch (q 4) (nI L.length)), (q 4, eJ cy 6 f), (o9, eJ cy 1 (vp_updL fx9 0 ((nI L.length).toInt64)))]) (va_A [(a 0, eTop (a 1) (a 3) (a 5) (a 6) uw), (a 5, eQ cy 2 g), (q 0, eCli (gb (J)) (q 1) (q 3) (q 5) (q 7) dc (q 8) (q 9) k), (q 3, eCch (q 4) (nI L.length)), (q 4, eJ cy 6 f), (o9, eJ cy 1 fx9)] sz)) (va_A [(a 0, eTop (a 1) (a 3) (a 5) (a 6) uw), (a 5, eQ cy 2 g), (q 0, eCli (gb (J)) (q 1) (q 3) (q 5) (q 7) dc (q 8) (q 9) k), (q 3, eCch (q 4) (nI L.length)), (q 4, eJ cy 6 f), (o9, eJ cy 1 fx9)] sz)) 0 0 (va_A [(a 0, eTop (a 1) (a 3) (a 5) (a 6) uw), (a 5, eQ cy 2 g), (q 0, eCli (gb (J)) (q 1) (q 3) (q 5) (q 7) dc (q 8) (q 9) k), (q 3, eCch (q 4) (nI L.length)), (q 4, eJ cy 6 f), (o9, eJ cy 1 fx9)] sz) := by
  refine gH_i (cc := cL_cached) (maxL := 4) (hh := [(0, 9, 12, 13), (0, 9, 15, 33)]) (by decide) rfl (Nat.le_of_ble_eq_true rfl) ?_
  intro pp ee ss mm bw mt cd QQ AA ls hfx hP hG hD hA hret hl
  have hS : va_S AA ss.heap ss.heap [] := va_S.rf
  obtain ⟨H, eH⟩ : ∃ H, H = ss.heap := ⟨_, rfl⟩
  obtain ⟨locs, eL⟩ : ∃ L : List Loc, L = [] := ⟨_, rfl⟩
  have hP : va_P D vwCl [(a 0, eTop (a 1) (a 3) (a 5) (a 6) uw), (a 5, eQ cy 2 g), (q 0, eCli (gb (J)) (q 1) (q 3) (q 5) (q 7) dc (q 8) (q 9) k), (q 3, eCch (q 4) (nI L.length)), (q 4, eJ cy 6 f), (o9, eJ cy 1 fx9)] H := by rw [eH]; exact hP
  have hS : va_S AA ss.heap H locs := by rw [eH, eL]; exact hS
  have goal : ∀ X Y, X = H → Y = locs → W pp l ee ({ frames := 2, cells := 0, slots := 0, locals := 42 } : Room) ss mm ([.ref (a 0), .int (nI i), .ref o9] : List Value).toArray bw mt cd X Y 0 0 QQ (F0 mm 0 ls []) → W pp l ee ({ frames := 2, cells := 0, slots := 0, locals := 42 } : Room) ss mm ([.ref (a 0), .int (nI i), .ref o9] : List Value).toArray bw mt cd ss.heap [] 0 0 QQ (F0 mm 0 ls []) := fun X Y hX hY h => by rw [hX, hY, eH, eL] at h; exact h
  refine goal H locs rfl rfl ?_
  clear goal eH eL
  obtain ⟨hx, hb, hml, hown, hts, hlocks⟩ := hfx
  have hown : ss.vm.findClass RL = some mm.cls := hown
  have hl : lv_has ls 4 [(0, .ref (a 0)), (1, .int (nI i)), (2, .ref o9)] := hl
  refine lv_aload_n hx hb dL_cached_0 rfl (lv_at hl 2 rfl) ?_
  refine lv_iconst (v := nI 0) hx hb dL_cached_1 (by decide) ?_
  refine lv_aload_n hx hb dL_cached_2 rfl (lv_at hl 0 rfl) ?_
  refine lv_iload_n hx hb dL_cached_3 rfl (lv_at hl 1 rfl) ?_
  refine gc_Si (va_runV (As := [.int (nI i)]) (rest := [.int (nI 0), .ref o9]) ⟨hx, hb, hml, hown, hts⟩ (c_X3_cached l D cy a q uw g J dc k i n f L hi hg hJ hf hL) (cwV 1 hts gL_cached_X3_cached rfl rfl rfl (by decide +kernel) ⟨Nat.le_of_ble_eq_true rfl, Nat.le_of_ble_eq_true rfl⟩) (gpVR (ci := 3) (q0 := 0) hG (hP.sub [0, 1, 2, 3, 4] rfl) rfl rfl) rfl rfl hl.1 rfl (lv_room (Nat.le_of_ble_eq_true rfl)) dL_cached_4 ⟨Nat.zero_le _, Nat.zero_le _⟩) ?_
  refine lv_i2l hx hb dL_cached_7 rfl ?_
  refine g_last hx hb hG hP hD hS 5 1 rfl rfl (k := 0) (by omega) (by decide) dL_cached_8 (fun H locs hP hD hS => ?_)
  have hP : va_P D vwCl [(a 0, eTop (a 1) (a 3) (a 5) (a 6) uw), (a 5, eQ cy 2 g), (q 0, eCli (gb (J)) (q 1) (q 3) (q 5) (q 7) dc (q 8) (q 9) k), (q 3, eCch (q 4) (nI L.length)), (q 4, eJ cy 6 f), (o9, eJ cy 1 (vp_updL fx9 0 ((nI L.length).toInt64)))] H := hP
  have hD : va_D AA [(a 0, eTop (a 1) (a 3) (a 5) (a 6) uw), (a 5, eQ cy 2 g), (q 0, eCli (gb (J)) (q 1) (q 3) (q 5) (q 7) dc (q 8) (q 9) k), (q 3, eCch (q 4) (nI L.length)), (q 4, eJ cy 6 f), (o9, eJ cy 1 (vp_updL fx9 0 ((nI L.length).toInt64)))] := hD
  refine lv_goto (tgt := 18) hx hb dL_cached_9 (by decide) ?_
  refine lv_iconst (v := nI 0) hx hb dL_cached_18 (by decide) ?_
  exact hret _ _ _ _ _ () dL_cached_19 (⟨rfl, trivial⟩) (hP.sub [0, 1, 2, 3, 4, 5] rfl) (hD.sub [0, 1, 2, 3, 4, 5] (by decide) rfl) hS
set_option maxHeartbeats 4000000 in
set_option maxRecDepth 100000 in
theorem cx_L_cached (l : Launch) (hst : l.stackTraces = false) (D : va_G) (cy : Nat → ClassId) (sa : Nat → Nat) (sz : Nat) (a : Nat → Nat) (uw : Int32) (i : Int32) (o9 : Nat) (hn : ¬ pIn i 0 1) : Met l yL_cached wsL_cached ({ frames := 8, cells := 1, slots := 6, locals := 131 } : Room) (va_Pc [.ref (a 0), .int i, .ref o9] (gXw D (gT cy) sa [(a 0, eTop (a 1) (a 3) (a 5) (a 6) uw)] sz)) (va_Qi (fun (r9 : Int32) (_ : Unit) => r9 = nI 1) (fun _ _ => True) (fun q => sz ≤ q)) 1 6 (fun q => sz ≤ q) := by
  refine gH_x (cc := cL_cached) (maxL := 4) (hh := [(0, 9, 12, 13), (0, 9, 15, 33)]) (kx := nI 1) (by decide) rfl (Nat.le_of_ble_eq_true rfl) ?_
  intro pp ee ss mm bw mt cd QQ ls hfx hP hG hE hN hT hret hl
  obtain ⟨hx, hb, hml, hown, hts, hlocks⟩ := hfx
  have hown : ss.vm.findClass RL = some mm.cls := hown
  have hl : lv_has ls 4 [(0, .ref (a 0)), (1, .int i), (2, .ref o9)] := hl
  refine lv_aload_n hx hb dL_cached_0 rfl (lv_at hl 2 rfl) ?_
  refine lv_iconst (v := nI 0) hx hb dL_cached_1 (by decide) ?_
  refine lv_aload_n hx hb dL_cached_2 rfl (lv_at hl 0 rfl) ?_
  refine lv_iload_n hx hb dL_cached_3 rfl (lv_at hl 1 rfl) ?_
  refine gx_catch (own := RL) (name := xIA) (fun _ _ _ h => h) (vx_runV (As := [.int i]) (rest := [.int (nI 0), .ref o9]) ⟨hx, hb, hml, hown, hts⟩ (cx_X3_cached l hst D cy sa ss.heap.size (a 0) i hn) (cwV 1 hts gL_cached_X3_cached rfl rfl rfl (by decide +kernel) ⟨Nat.le_of_ble_eq_true rfl, Nat.le_of_ble_eq_true rfl⟩) (gpVY (ci := 3) (q0 := 0) hG hE (hP.sub [] rfl) hP rfl rfl) rfl rfl hl.1 rfl (lv_room (Nat.le_of_ble_eq_true rfl)) dL_cached_4 ⟨Nat.le_of_ble_eq_true rfl, Nat.le_of_ble_eq_true rfl⟩) hown [] ⟨0, 9, 12, 13⟩ [⟨0, 9, 15, 33⟩] (hT.trans rfl) (fun _ h9 => absurd h9 List.not_mem_nil) rfl (by decide) (hts (.classLink RL 13 xIA) (by decide +kernel)) (gcast hE.2.2.2.2.2.1) (fun H locs q9 hS => ?_)
  refine lv_astore_n (lv' := [(3, .ref q9), (0, .ref (a 0)), (1, .int i), (2, .ref o9)]) hx hb dL_cached_12 rfl hl (by decide) rfl (fun ls hl => ?_)
  refine lv_iconst (v := nI 1) hx hb dL_cached_13 (by decide) ?_
  exact hret _ _ _ _ dL_cached_14 hS
set_option maxHeartbeats 4000000 in
set_option maxRecDepth 100000 in
theorem cx_L_cached_s (l : Launch) (hst : l.stackTraces = false) (D : va_G) (cy : Nat → ClassId) (sa : Nat → Nat) (sz : Nat) (a q : Nat → Nat) (uw : Int32) (g : Nat → Option Nat) (J : Prop) (dc k : Int32) (i : Nat) (o9 : Nat) (hi : i < 2) (hg : g i = some (q 0)) (hJ : ¬ J) : Met l yL_cached wsL_cached ({ frames := 8, cells := 1, slots := 6, locals := 131 } : Room) (va_Pc [.ref (a 0), .int (nI i), .ref o9] (gXw D (gT cy) sa [(a 0, eTop (a 1) (a 3) (a 5) (a 6) uw), (a 5, eQ cy 2 g), (q 0, eCli (gb (J)) (q 1) (q 3) (q 5) (q 7) dc (q 8) (q 9) k)] sz)) (va_Qi (fun (r9 : Int32) (_ : Unit) => r9 = nI 2) (fun _ _ => True) (fun q => sz ≤ q)) 1 6 (fun q => sz ≤ q) := by
  refine gH_x (cc := cL_cached) (maxL := 4) (hh := [(0, 9, 12, 13), (0, 9, 15, 33)]) (kx := nI 2) (by decide) rfl (Nat.le_of_ble_eq_true rfl) ?_
  intro pp ee ss mm bw mt cd QQ ls hfx hP hG hE hN hT hret hl
  obtain ⟨hx, hb, hml, hown, hts, hlocks⟩ := hfx
  have hown : ss.vm.findClass RL = some mm.cls := hown
  have hl : lv_has ls 4 [(0, .ref (a 0)), (1, .int (nI i)), (2, .ref o9)] := hl
  refine lv_aload_n hx hb dL_cached_0 rfl (lv_at hl 2 rfl) ?_
  refine lv_iconst (v := nI 0) hx hb dL_cached_1 (by decide) ?_
  refine lv_aload_n hx hb dL_cached_2 rfl (lv_at hl 0 rfl) ?_
  refine lv_iload_n hx hb dL_cached_3 rfl (lv_at hl 1 rfl) ?_
  refine gx_catch (own := RL) (name := xIS) (fun _ _ _ h => h) (vx_runV (As := [.int (nI i)]) (rest := [.int (nI 0), .ref o9]) ⟨hx, hb, hml, hown, hts⟩ (cx_X3_cached_s l hst D cy sa ss.heap.size a q uw g J dc k i hi hg hJ) (cwV 1 hts gL_cached_X3_cached rfl rfl rfl (by decide +kernel) ⟨Nat.le_of_ble_eq_true rfl, Nat.le_of_ble_eq_true rfl⟩) (gpVY (ci := 3) (q0 := 0) hG hE (hP.sub [0, 1, 2] rfl) hP rfl rfl) rfl rfl hl.1 rfl (lv_room (Nat.le_of_ble_eq_true rfl)) dL_cached_4 ⟨Nat.le_of_ble_eq_true rfl, Nat.le_of_ble_eq_true rfl⟩) hown [⟨0, 9, 12, 13⟩] ⟨0, 9, 15, 33⟩ [] (hT.trans rfl) ((List.forall_mem_cons.mpr ⟨Or.inr ⟨by decide, xIA, hts (.classLink RL 13 xIA) (by decide +kernel), hN.1⟩, fun _ h9 => absurd h9 List.not_mem_nil⟩)) rfl (by decide) (hts (.classLink RL 33 xIS) (by decide +kernel)) (gcast hE.2.2.2.2.2.2.1) (fun H locs q9 hS => ?_)
  refine lv_astore_n (lv' := [(3, .ref q9), (0, .ref (a 0)), (1, .int (nI i)), (2, .ref o9)]) hx hb dL_cached_15 rfl hl (by decide) rfl (fun ls hl => ?_)
  refine lv_iconst (v := nI 2) hx hb dL_cached_16 (by decide) ?_
  exact hret _ _ _ _ dL_cached_17 hS
set_option maxHeartbeats 4000000 in
set_option maxRecDepth 100000 in
theorem c_L_written (l : Launch) (D : va_G) (cy : Nat → ClassId) (sz : Nat) (a : Nat → Nat) (uw : Int32) (fw : Nat → Int32) (w : Nat) (o9 : Nat) (fx9 : Nat → Int64) (hw : w < 5) : Met l yL_written wsL_written ({ frames := 2, cells := 0, slots := 0, locals := 42 } : Room) (va_Pc [.ref (a 0), .int (nI w), .ref o9] (gI D (gT cy) [(a 0, eTop (a 1) (a 3) (a 5) (a 6) uw), (a 6, eI cy 5 fw), (o9, eJ cy 1 fx9)] sz)) (va_Qi (fun (r9 : Int32) (u : Unit) => r9 = nI 0 ∧ ((True))) (gO D (fun u : Unit => [(a 0, eTop (a 1) (a 3) (a 5) (a 6) uw), (a 6, eI cy 5 fw), (o9, eJ cy 1 (vp_updL fx9 0 ((fw w).toInt64)))]) (va_A [(a 0, eTop (a 1) (a 3) (a 5) (a 6) uw), (a 6, eI cy 5 fw), (o9, eJ cy 1 fx9)] sz)) (va_A [(a 0, eTop (a 1) (a 3) (a 5) (a 6) uw), (a 6, eI cy 5 fw), (o9, eJ cy 1 fx9)] sz)) 0 0 (va_A [(a 0, eTop (a 1) (a 3) (a 5) (a 6) uw), (a 6, eI cy 5 fw), (o9, eJ cy 1 fx9)] sz) := by
  refine gH_i (cc := cL_written) (maxL := 4) (hh := [(0, 9, 12, 13)]) (by decide) rfl (Nat.le_of_ble_eq_true rfl) ?_
  intro pp ee ss mm bw mt cd QQ AA ls hfx hP hG hD hA hret hl
  have hS : va_S AA ss.heap ss.heap [] := va_S.rf
  obtain ⟨H, eH⟩ : ∃ H, H = ss.heap := ⟨_, rfl⟩
  obtain ⟨locs, eL⟩ : ∃ L : List Loc, L = [] := ⟨_, rfl⟩
  have hP : va_P D vwCl [(a 0, eTop (a 1) (a 3) (a 5) (a 6) uw), (a 6, eI cy 5 fw), (o9, eJ cy 1 fx9)] H := by rw [eH]; exact hP
  have hS : va_S AA ss.heap H locs := by rw [eH, eL]; exact hS
  have goal : ∀ X Y, X = H → Y = locs → W pp l ee ({ frames := 2, cells := 0, slots := 0, locals := 42 } : Room) ss mm ([.ref (a 0), .int (nI w), .ref o9] : List Value).toArray bw mt cd X Y 0 0 QQ (F0 mm 0 ls []) → W pp l ee ({ frames := 2, cells := 0, slots := 0, locals := 42 } : Room) ss mm ([.ref (a 0), .int (nI w), .ref o9] : List Value).toArray bw mt cd ss.heap [] 0 0 QQ (F0 mm 0 ls []) := fun X Y hX hY h => by rw [hX, hY, eH, eL] at h; exact h
  refine goal H locs rfl rfl ?_
  clear goal eH eL
  obtain ⟨hx, hb, hml, hown, hts, hlocks⟩ := hfx
  have hown : ss.vm.findClass RL = some mm.cls := hown
  have hl : lv_has ls 4 [(0, .ref (a 0)), (1, .int (nI w)), (2, .ref o9)] := hl
  refine lv_aload_n hx hb dL_written_0 rfl (lv_at hl 2 rfl) ?_
  refine lv_iconst (v := nI 0) hx hb dL_written_1 (by decide) ?_
  refine lv_aload_n hx hb dL_written_2 rfl (lv_at hl 0 rfl) ?_
  refine lv_iload_n hx hb dL_written_3 rfl (lv_at hl 1 rfl) ?_
  refine gc_Si (va_runV (As := [.int (nI w)]) (rest := [.int (nI 0), .ref o9]) ⟨hx, hb, hml, hown, hts⟩ (c_X3_written l D cy a uw fw w hw) (cwV 1 hts gL_written_X3_written rfl rfl rfl (by decide +kernel) ⟨Nat.le_of_ble_eq_true rfl, Nat.le_of_ble_eq_true rfl⟩) (gpVR (ci := 3) (q0 := 0) hG (hP.sub [0, 1] rfl) rfl rfl) rfl rfl hl.1 rfl (lv_room (Nat.le_of_ble_eq_true rfl)) dL_written_4 ⟨Nat.zero_le _, Nat.zero_le _⟩) ?_
  refine lv_i2l hx hb dL_written_7 rfl ?_
  refine g_last hx hb hG hP hD hS 2 1 rfl rfl (k := 0) (by omega) (by decide) dL_written_8 (fun H locs hP hD hS => ?_)
  have hP : va_P D vwCl [(a 0, eTop (a 1) (a 3) (a 5) (a 6) uw), (a 6, eI cy 5 fw), (o9, eJ cy 1 (vp_updL fx9 0 ((fw w).toInt64)))] H := hP
  have hD : va_D AA [(a 0, eTop (a 1) (a 3) (a 5) (a 6) uw), (a 6, eI cy 5 fw), (o9, eJ cy 1 (vp_updL fx9 0 ((fw w).toInt64)))] := hD
  refine lv_goto (tgt := 15) hx hb dL_written_9 (by decide) ?_
  refine lv_iconst (v := nI 0) hx hb dL_written_15 (by decide) ?_
  exact hret _ _ _ _ _ () dL_written_16 (⟨rfl, trivial⟩) (hP.sub [0, 1, 2] rfl) (hD.sub [0, 1, 2] (by decide) rfl) hS
set_option maxHeartbeats 4000000 in
set_option maxRecDepth 100000 in
theorem cx_L_written (l : Launch) (hst : l.stackTraces = false) (D : va_G) (cy : Nat → ClassId) (sa : Nat → Nat) (sz : Nat) (a : Nat → Nat) (uw : Int32) (w : Int32) (o9 : Nat) (hn : ¬ pIn w 0 4) : Met l yL_written wsL_written ({ frames := 8, cells := 1, slots := 6, locals := 131 } : Room) (va_Pc [.ref (a 0), .int w, .ref o9] (gXw D (gT cy) sa [(a 0, eTop (a 1) (a 3) (a 5) (a 6) uw)] sz)) (va_Qi (fun (r9 : Int32) (_ : Unit) => r9 = nI 1) (fun _ _ => True) (fun q => sz ≤ q)) 1 6 (fun q => sz ≤ q) := by
  refine gH_x (cc := cL_written) (maxL := 4) (hh := [(0, 9, 12, 13)]) (kx := nI 1) (by decide) rfl (Nat.le_of_ble_eq_true rfl) ?_
  intro pp ee ss mm bw mt cd QQ ls hfx hP hG hE hN hT hret hl
  obtain ⟨hx, hb, hml, hown, hts, hlocks⟩ := hfx
  have hown : ss.vm.findClass RL = some mm.cls := hown
  have hl : lv_has ls 4 [(0, .ref (a 0)), (1, .int w), (2, .ref o9)] := hl
  refine lv_aload_n hx hb dL_written_0 rfl (lv_at hl 2 rfl) ?_
  refine lv_iconst (v := nI 0) hx hb dL_written_1 (by decide) ?_
  refine lv_aload_n hx hb dL_written_2 rfl (lv_at hl 0 rfl) ?_
  refine lv_iload_n hx hb dL_written_3 rfl (lv_at hl 1 rfl) ?_
  refine gx_catch (own := RL) (name := xIA) (fun _ _ _ h => h) (vx_runV (As := [.int w]) (rest := [.int (nI 0), .ref o9]) ⟨hx, hb, hml, hown, hts⟩ (cx_X3_written l hst D cy sa ss.heap.size (a 0) w hn) (cwV 1 hts gL_written_X3_written rfl rfl rfl (by decide +kernel) ⟨Nat.le_of_ble_eq_true rfl, Nat.le_of_ble_eq_true rfl⟩) (gpVY (ci := 3) (q0 := 0) hG hE (hP.sub [] rfl) hP rfl rfl) rfl rfl hl.1 rfl (lv_room (Nat.le_of_ble_eq_true rfl)) dL_written_4 ⟨Nat.le_of_ble_eq_true rfl, Nat.le_of_ble_eq_true rfl⟩) hown [] ⟨0, 9, 12, 13⟩ [] (hT.trans rfl) (fun _ h9 => absurd h9 List.not_mem_nil) rfl (by decide) (hts (.classLink RL 13 xIA) (by decide +kernel)) (gcast hE.2.2.2.2.2.1) (fun H locs q9 hS => ?_)
  refine lv_astore_n (lv' := [(3, .ref q9), (0, .ref (a 0)), (1, .int w), (2, .ref o9)]) hx hb dL_written_12 rfl hl (by decide) rfl (fun ls hl => ?_)
  refine lv_iconst (v := nI 1) hx hb dL_written_13 (by decide) ?_
  exact hret _ _ _ _ dL_written_14 hS
