/-! calls that throw: what they stand on, their contracts' form, how they leave and are caught -/
abbrev xIA : String := "java/lang/IllegalArgumentException"
abbrev xIS : String := "java/lang/IllegalStateException"
abbrev xIO : String := "java/lang/IndexOutOfBoundsException"
abbrev xNm : List String := ["java/lang/RuntimeException", "java/lang/Exception"]
def gE (sa : Nat → Nat) (A : Nat → Prop) (U : State) (H : Heap) : Prop := vx_Zq Bundle.tN "UNASSIGNED_STACK" Bundle.steD A U H ∧ vx_Zq Bundle.tN "SUPPRESSED_SENTINEL" Bundle.listD A U H ∧ vk_R RX3 147 "a parameter is out of range" (sa 0) U ∧ vk_R RX3 152 "the client is not in the state for this" (sa 1) U ∧ vk_R RX3 124 "no such dirty tile" (sa 2) U ∧ va_Nw (.castable xIA xIA) U ∧ va_Nw (.castable xIS xIS) U ∧ va_Nw (.castable xIO xIO) U ∧ va_Nw (.declares (Bundle.initS "java/lang/RuntimeException")) U ∧ va_Nw (.declares (Bundle.initS "java/lang/Exception")) U ∧ va_Nw (.declares (Bundle.initS Bundle.tN)) U
theorem gE.warm {sa : Nat → Nat} {A : Nat → Prop} {s U : State} {H : Heap} (h : gE sa A s H) (hW : s.WarmedH U.vm) : gE sa A U H :=
  ⟨vx_Zq.moved hW.alike h.1, vx_Zq.moved hW.alike h.2.1, vk_R.warm hW h.2.2.1, vk_R.warm hW h.2.2.2.1, vk_R.warm hW h.2.2.2.2.1, va_Nw.warmC hW h.2.2.2.2.2.1, va_Nw.warmC hW h.2.2.2.2.2.2.1, va_Nw.warmC hW h.2.2.2.2.2.2.2.1, va_Nw.warmD hW h.2.2.2.2.2.2.2.2.1, va_Nw.warmD hW h.2.2.2.2.2.2.2.2.2.1, va_Nw.warmD hW h.2.2.2.2.2.2.2.2.2.2⟩
theorem gE.vm {sa : Nat → Nat} {A : Nat → Prop} {s U : State} {H : Heap} (h : gE sa A s H) (hW : s.vm = U.vm) : gE sa A U H :=
  ⟨vx_Zq.moved (by rw [← hW]; exact Vm.Alike.refl s.vm) h.1, vx_Zq.moved (by rw [← hW]; exact Vm.Alike.refl s.vm) h.2.1, vk_R.same hW.symm h.2.2.1, vk_R.same hW.symm h.2.2.2.1, vk_R.same hW.symm h.2.2.2.2.1, va_Nw.same rfl hW h.2.2.2.2.2.1, va_Nw.same rfl hW h.2.2.2.2.2.2.1, va_Nw.same rfl hW h.2.2.2.2.2.2.2.1, va_Nw.same rfl hW h.2.2.2.2.2.2.2.2.1, va_Nw.same rfl hW h.2.2.2.2.2.2.2.2.2.1, va_Nw.same rfl hW h.2.2.2.2.2.2.2.2.2.2⟩
theorem gE.kept {sa : Nat → Nat} {A : Nat → Prop} {s : State} {H H1 : Heap} (h : gE sa A s H) (hq : ∀ a : Nat, a < H.size → ¬ A a → H1[a]? = H[a]?) : gE sa A s H1 :=
  ⟨h.1.kept hq, h.2.1.kept hq, h.2.2⟩
theorem gE.narrow {sa : Nat → Nat} {A B : Nat → Prop} {s : State} {H : Heap} (h : gE sa A s H) (hq : ∀ a : Nat, B a → A a) : gE sa B s H :=
  ⟨h.1.narrow hq, h.2.1.narrow hq, h.2.2⟩
/-- the start of a call that throws -/
def gX (D : va_G) (tys : List (ClassId × FieldType)) (sa : Nat → Nat) (wd : va_W) (sz : Nat) : State → Prop := fun U => U.heap.size = sz ∧ va_P D vwCl wd U.heap ∧ gG D tys U ∧ gE sa (fun q => sz ≤ q) U U.heap
theorem gX_blind {av : List Value} {D : va_G} {tys : List (ClassId × FieldType)} {sa : Nat → Nat} {wd : va_W} {sz : Nat} : FrameBlind (va_Pc av (gX D tys sa wd sz)) := fun a U g mk q => ⟨q.1, q.2.1, q.2.2.1, gG.vm (U := U.calling g mk a) q.2.2.2.1 rfl, gE.vm (U := U.calling g mk a) q.2.2.2.2 rfl⟩
/-- the end of a call that throws E: nothing that was there has changed -/
def gXC (E : String) (sz : Nat) : String → State → State → Prop := fun E' st t => E' = E ∧ va_F (fun q => sz ≤ q) st t
abbrev gNo : Array Value → State → Outcome → State → Prop := fun _ _ _ _ => False
section GX
variable {l : Launch} {y : MethodName} {ws ws' : List Cond} {rm : Room} {cc : ByteArray} {maxL : Nat} {ret : Option FieldType} {av : List Value} {D : va_G} {tys : List (ClassId × FieldType)} {wd : va_W} {sa : Nat → Nat} {E : String} {sz : Nat}
theorem gx_out {p : Program} {e : Env} {R : Room} {s : State} {m : MethodId} {below : List Frame} {meth : Method} {c : Code} {args : Array Value} {pc : Nat} {ls : Array Slot} {rest st0 : List Value} {Qa : State → Outcome → State → Prop} (hQ : ∀ a b c, ¬ Qa a b c)
    (hr : vx_Run p l e R s m args below meth c s.heap [] 0 0 1 6 (F0 m pc ls st0) rest Qa (gXC E s.heap.size) (fun q => s.heap.size ≤ q))
    (ht : ∀ x ∈ c.exceptionTable.toList, False) (hlocks : meth.locks = false) :
    W p l e R s m args below meth c s.heap [] 0 0 (vx_MQ below gNo (gXC E s.heap.size) args s 1 6 (fun q => s.heap.size ≤ q)) (F0 m pc ls st0) := by
  intro T hT X
  rcases hr T hT X with ⟨v, st₀, t, T', L, h0, X', hL, e1, e2, hq, st⟩ | ⟨q, st₀, t, T', L, E', ce, h0, X', hL, e1, e2, ⟨hE, hF⟩, hce, hcv, hcl, st⟩
  · exact absurd hq (hQ _ _ _)
  · obtain ⟨hz, hk⟩ := hF
    rw [h0] at hz hk
    obtain ⟨t2, a1, b1⟩ := vx_out (pc := pc) (ls := ls) (rest := rest) (E := E') (ce := ce) (q := q) (H := T'.heap) (locs := [] ++ L) (XC := gXC E s.heap.size) (Qc := gNo) (mc := 1) (ms := 6) (free := fun q => s.heap.size ≤ q) (fun x hx => (ht x hx).elim) hlocks (by rw [e1]; exact hce) hcv hcl
      (fun t9 ht9 _ => ⟨hE, by rw [ht9, e1]; exact hz, fun q h1 h2 => by rw [ht9, e1]; exact hk q h1 h2⟩) (fun z hz9 => hL z (by rw [List.nil_append] at hz9; exact hz9)) (Nat.le_refl _) (Nat.le_refl _) T' rfl X'
    exact ⟨t2, st.trans a1, b1⟩
theorem gM_x (hy : plainName y.cls = true) (hw : ws = Cond.code y cc maxL ret :: ws') (hlen : (lg_sl av).length ≤ maxL)
    (body : ∀ (p : Program) (e : Env) (s : State) (m : MethodId) (below : List Frame) (meth : Method) (c : Code) (Q : State → Prop) (ls : Array Slot), gFx y.cls cc maxL ws p s m av.toArray meth c → va_P D vwCl wd s.heap → gG D tys s → gE sa (fun q => s.heap.size ≤ q) s s.heap → (∀ x ∈ c.exceptionTable.toList, False) →
      Q = vx_MQ below gNo (gXC E s.heap.size) av.toArray s 1 6 (fun q => s.heap.size ≤ q) →
      (∀ (pc : Nat) (ls : Array Slot) (rest st0 : List Value) (Qa : State → Outcome → State → Prop), (∀ a b c, ¬ Qa a b c) → vx_Run p l e rm s m av.toArray below meth c s.heap [] 0 0 1 6 (F0 m pc ls st0) rest Qa (gXC E s.heap.size) (fun q => s.heap.size ≤ q) → W p l e rm s m av.toArray below meth c s.heap [] 0 0 Q (F0 m pc ls st0)) →
      lv_has ls maxL (lv_args 0 av) → W p l e rm s m av.toArray below meth c s.heap [] 0 0 Q (F0 m 0 ls [])) : vx_Met l y ws rm (va_Pc av (gX D tys sa wd sz)) gNo (gXC E sz) 1 6 (fun q => sz ≤ q) := by
  refine vx_ofW (cc := cc) (maxL := maxL) (ret := ret) hy hw ?_
  intro p e s m args below meth c s₁ B hml ht hv
  obtain ⟨rfl, hsz, hP, hG, hE⟩ := hv
  subst hsz
  rw [lg_entry_eq]
  exact body p e s m below meth c _ _ ⟨B.exec, B.bytes, hml, findClass_of_methodNamed B.named, atoms_spec (ws := ws) B.pre, B.notSynchronized⟩ hP hG hE ht rfl
    (fun pc ls rest st0 Qa hQ hr => gx_out hQ hr ht B.notSynchronized) (lv_entry av hlen)
theorem gpVX {s : State} {H : Heap} {b : Nat} {As : List Value} {wc : va_W} {ci q0 : Nat} {fs : List Value} {q : vw_C} (hG : gG D tys s) (hE : gE sa (fun q => H.size ≤ q) s H) (hP : va_P D vwCl wc H) (hc : vwCl[ci]? = some q) (he : wc[q0]? = some (b, .inr (ci, fs))) : PreV s H q.1 b (va_Pc (.ref b :: As) (gX D tys sa wc H.size)) As :=
  ⟨gX_blind, va_recv hG.1 hP hc he, fun U hU hW => ⟨rfl, by rw [hU], by rw [hU]; exact hP, hG.warm hW, by rw [hU]; exact hE.warm hW⟩⟩
theorem gpSX {s : State} {H : Heap} {As : List Value} {wc : va_W} (hG : gG D tys s) (hE : gE sa (fun q => H.size ≤ q) s H) (hP : va_P D vwCl wc H) : PreS s H (va_Pc As (gX D tys sa wc H.size)) As :=
  ⟨gX_blind, fun U hU hW => ⟨rfl, by rw [hU], by rw [hU]; exact hP, hG.warm hW, by rw [hU]; exact hE.warm hW⟩⟩
end GX
