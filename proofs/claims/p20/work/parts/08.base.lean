/-! what every contract of this claim is said in: gR (reads), gI/gO (writes), and the two ends of a body and of a call -/
abbrev vwCl : List vw_C := [(RX0, TX0, 2), (RX1, TX1, 9), (RX2, TX2, 1), (RX3, TX3, 5)]
noncomputable def gb (P : Prop) : Int32 := @ite _ P (Classical.propDecidable P) 1 0
theorem gb_t {P : Prop} (h : P) : gb P = 1 := by unfold gb; exact if_pos h
theorem gb_f {P : Prop} (h : ¬ P) : gb P = 0 := by unfold gb; exact if_neg h
theorem gb_eq0 {P : Prop} : gb P = 0 ↔ ¬ P := by
  refine ⟨fun h hp => ?_, gb_f⟩
  rw [gb_t hp] at h
  exact absurd h (by decide)
theorem gb_ne0 {P : Prop} : ¬ gb P = 0 ↔ P := by
  rw [gb_eq0]; exact Classical.not_not
theorem gb_cong {P Q : Prop} (h : P ↔ Q) : gb P = gb Q := by rw [propext h]
theorem gb_01 (P : Prop) : gb P = 0 ∨ gb P = 1 := by
  by_cases h : P
  · exact Or.inr (gb_t h)
  · exact Or.inl (gb_f h)
theorem gb_nar (P : Prop) : narrow .boolean (.int (gb P)) = .int (gb P) := by
  rcases gb_01 P with h | h <;> rw [h] <;> rfl
theorem gb_fit (P : Prop) : fits .boolean (.int (gb P)) = true := by
  rcases gb_01 P with h | h <;> rw [h] <;> rfl
/-- a value between two whole numbers -/
abbrev pIn (v : Int32) (lo hi : Int) : Prop := lo ≤ v.toInt ∧ v.toInt ≤ hi
theorem pIn_nat {v : Int32} {n : Nat} (h : pIn v 0 n) : ∃ j : Nat, j ≤ n ∧ v = nI j := by
  have h2 := fb_rng v
  have h0 : 0 ≤ v.toInt := h.1
  have h1 : v.toInt ≤ (n : Int) := h.2
  refine ⟨v.toInt.toNat, by omega, Int32.toInt_inj.mp ?_⟩
  rw [nI_toInt (by omega)]
  omega
theorem pIn_nI {j : Nat} {lo hi : Int} (hj : j < 2 ^ 31) : pIn (nI j) lo hi ↔ lo ≤ (j : Int) ∧ (j : Int) ≤ hi := by
  show lo ≤ (nI j).toInt ∧ (nI j).toInt ≤ hi ↔ _
  rw [nI_toInt hj]
/-- what stays true of the machine while the program runs -/
def gG (D : va_G) (tys : List (ClassId × FieldType)) (U : State) : Prop := va_K D vwCl tys U ∧ va_Nw (.methodLinkNest RX2 22 yX3_cellAt RX3) U ∧ va_Nw (.methodLinkNest RX1 17 yX2_init RX3) U ∧ va_Nw (.methodLinkNest RX1 24 yX0_init RX3) U ∧ va_Nw (.methodLinkNest RX3 9 yX2_init RX3) U ∧ va_Nw (.methodLinkNest RX3 33 yX1_init RX3) U
theorem gG.warm {D : va_G} {tys : List (ClassId × FieldType)} {s U : State} (h : gG D tys s) (hW : s.WarmedH U.vm) : gG D tys U :=
  ⟨va_K.moved hW.alike h.1, va_Nw.warmM hW h.2.1, va_Nw.warmM hW h.2.2.1, va_Nw.warmM hW h.2.2.2.1, va_Nw.warmM hW h.2.2.2.2.1, va_Nw.warmM hW h.2.2.2.2.2⟩
theorem gG.vm {D : va_G} {tys : List (ClassId × FieldType)} {s U : State} (h : gG D tys s) (hW : s.vm = U.vm) : gG D tys U :=
  ⟨va_K.moved (by rw [← hW]; exact Vm.Alike.refl s.vm) h.1, va_Nw.same rfl hW h.2.1, va_Nw.same rfl hW h.2.2.1, va_Nw.same rfl hW h.2.2.2.1, va_Nw.same rfl hW h.2.2.2.2.1, va_Nw.same rfl hW h.2.2.2.2.2⟩
def gR (D : va_G) (tys : List (ClassId × FieldType)) (wd : va_W) : State → Prop := fun U => va_P D vwCl wd U.heap ∧ gG D tys U
def gI (D : va_G) (tys : List (ClassId × FieldType)) (wd : va_W) (sz : Nat) : State → Prop := fun U => U.heap.size = sz ∧ va_P D vwCl wd U.heap ∧ gG D tys U ∧ va_D (fun _ => True) wd
def gO {S : Type} (D : va_G) (wo : S → va_W) (A : Nat → Prop) : S → State → Prop := fun u t => va_P D vwCl (wo u) t.heap ∧ va_D A (wo u)
theorem gR_blind {av : List Value} {D : va_G} {tys : List (ClassId × FieldType)} {wd : va_W} : FrameBlind (va_Pc av (gR D tys wd)) := fun a U g mk q => ⟨q.1, q.2.1, gG.vm (U := U.calling g mk a) q.2.2 rfl⟩
theorem gI_blind {av : List Value} {D : va_G} {tys : List (ClassId × FieldType)} {wd : va_W} {sz : Nat} : FrameBlind (va_Pc av (gI D tys wd sz)) := fun a U g mk q => ⟨q.1, q.2.1, q.2.2.1, gG.vm (U := U.calling g mk a) q.2.2.2.1 rfl, q.2.2.2.2⟩
/-- what a body stands on -/
def gFx (own : String) (cc : ByteArray) (maxL : Nat) (ws : List Cond) (p : Program) (s : State) (m : MethodId) (args : Array Value) (meth : Method) (c : Code) : Prop :=
  p.tables.exec = Jvm.exec ∧ c.code = cc ∧ c.maxLocals = maxL ∧ s.vm.findClass own = some m.cls ∧ (∀ w ∈ ws, w.before args s = true) ∧ meth.locks = false
section GM
variable {l : Launch} {y : MethodName} {ws ws' : List Cond} {rm : Room} {cc : ByteArray} {maxL : Nat} {ty : FieldType} {av : List Value} {D : va_G} {tys : List (ClassId × FieldType)} {wd : va_W}
theorem gM_i {post : Int32 → Prop} (hy : plainName y.cls = true) (hw : ws = Cond.code y cc maxL (some ty) :: ws') (hlen : (lg_sl av).length ≤ maxL) (hn : ∀ v, post v → narrow ty (.int v) = .int v)
    (body : ∀ (p : Program) (e : Env) (s : State) (m : MethodId) (below : List Frame) (meth : Method) (c : Code) (Q : State → Prop) (ls : Array Slot), gFx y.cls cc maxL ws p s m av.toArray meth c → va_P D vwCl wd s.heap → gG D tys s →
      (∀ (pc : Nat) (ls : Array Slot) (v : Int32), decode cc pc = .ok (.ireturn, 1) → post v → W p l e rm s m av.toArray below meth c s.heap [] 0 0 Q (F0 m pc ls [.int v])) →
      lv_has ls maxL (lv_args 0 av) → W p l e rm s m av.toArray below meth c s.heap [] 0 0 Q (F0 m 0 ls [])) : Met l y ws rm (va_Pc av (gR D tys wd)) (vp_Si post) 0 0 (fun _ => False) := by
  refine Met.ofW (cc := cc) (maxL := maxL) (ret := some ty) hy hw ?_
  intro p e s m args below meth c s₁ B hml hv
  obtain ⟨rfl, hP, hG⟩ := hv
  rw [lg_entry_eq]
  exact body p e s m below meth c _ _ ⟨B.exec, B.bytes, hml, findClass_of_methodNamed B.named, atoms_spec (ws := ws) B.pre, B.notSynchronized⟩ hP hG
    (fun pc ls v hd hp => W.zret B.exec B.bytes B.returns (hn v hp) (fun t ht hW => ⟨v, rfl, hp, ht⟩) (fun q hq => nomatch hq) hd B.notSynchronized) (lv_entry av hlen)
theorem gM_l {post : Int64 → Prop} (hy : plainName y.cls = true) (hw : ws = Cond.code y cc maxL (some .long) :: ws') (hlen : (lg_sl av).length ≤ maxL)
    (body : ∀ (p : Program) (e : Env) (s : State) (m : MethodId) (below : List Frame) (meth : Method) (c : Code) (Q : State → Prop) (ls : Array Slot), gFx y.cls cc maxL ws p s m av.toArray meth c → va_P D vwCl wd s.heap → gG D tys s →
      (∀ (pc : Nat) (ls : Array Slot) (v : Int64), decode cc pc = .ok (.lreturn, 1) → post v → W p l e rm s m av.toArray below meth c s.heap [] 0 0 Q (F0 m pc ls [.long v])) →
      lv_has ls maxL (lv_args 0 av) → W p l e rm s m av.toArray below meth c s.heap [] 0 0 Q (F0 m 0 ls [])) : Met l y ws rm (va_Pc av (gR D tys wd)) (vp_Sl post) 0 0 (fun _ => False) := by
  refine Met.ofW (cc := cc) (maxL := maxL) (ret := some .long) hy hw ?_
  intro p e s m args below meth c s₁ B hml hv
  obtain ⟨rfl, hP, hG⟩ := hv
  rw [lg_entry_eq]
  exact body p e s m below meth c _ _ ⟨B.exec, B.bytes, hml, findClass_of_methodNamed B.named, atoms_spec (ws := ws) B.pre, B.notSynchronized⟩ hP hG
    (fun pc ls v hd hp => W.lret B.exec B.bytes B.returns (fun t ht hW => ⟨v, rfl, hp, ht⟩) (fun q hq => nomatch hq) hd B.notSynchronized) (lv_entry av hlen)
theorem gM_v (hy : plainName y.cls = true) (hw : ws = Cond.code y cc maxL none :: ws') (hlen : (lg_sl av).length ≤ maxL)
    (body : ∀ (p : Program) (e : Env) (s : State) (m : MethodId) (below : List Frame) (meth : Method) (c : Code) (Q : State → Prop) (ls : Array Slot), gFx y.cls cc maxL ws p s m av.toArray meth c → va_P D vwCl wd s.heap → gG D tys s →
      (∀ (pc : Nat) (ls : Array Slot), decode cc pc = .ok (.return_, 1) → W p l e rm s m av.toArray below meth c s.heap [] 0 0 Q (F0 m pc ls [])) →
      lv_has ls maxL (lv_args 0 av) → W p l e rm s m av.toArray below meth c s.heap [] 0 0 Q (F0 m 0 ls [])) : Met l y ws rm (va_Pc av (gR D tys wd)) (va_Sv (fun _ => True)) 0 0 (fun _ => False) := by
  refine Met.ofW (cc := cc) (maxL := maxL) (ret := none) hy hw ?_
  intro p e s m args below meth c s₁ B hml hv
  obtain ⟨rfl, hP, hG⟩ := hv
  rw [lg_entry_eq]
  exact body p e s m below meth c _ _ ⟨B.exec, B.bytes, hml, findClass_of_methodNamed B.named, atoms_spec (ws := ws) B.pre, B.notSynchronized⟩ hP hG
    (fun pc ls hd => W.vret B.exec B.bytes B.returns (fun t ht hW => ⟨rfl, trivial, ht⟩) (fun q hq => nomatch hq) hd B.notSynchronized) (lv_entry av hlen)
theorem gM_a {n9 : String} {a : Nat} (hy : plainName y.cls = true) (hw : ws = Cond.code y cc maxL (some (.object n9)) :: ws') (hlen : (lg_sl av).length ≤ maxL)
    (body : ∀ (p : Program) (e : Env) (s : State) (m : MethodId) (below : List Frame) (meth : Method) (c : Code) (Q : State → Prop) (ls : Array Slot), gFx y.cls cc maxL ws p s m av.toArray meth c → va_P D vwCl wd s.heap → gG D tys s →
      (∀ (pc : Nat) (ls : Array Slot), decode cc pc = .ok (.areturn, 1) → W p l e rm s m av.toArray below meth c s.heap [] 0 0 Q (F0 m pc ls [.ref a])) →
      lv_has ls maxL (lv_args 0 av) → W p l e rm s m av.toArray below meth c s.heap [] 0 0 Q (F0 m 0 ls [])) : Met l y ws rm (va_Pc av (gR D tys wd)) (va_Sr (fun k => k = a) Value.ref) 0 0 (fun _ => False) := by
  refine Met.ofW (cc := cc) (maxL := maxL) (ret := some (.object n9)) hy hw ?_
  intro p e s m args below meth c s₁ B hml hv
  obtain ⟨rfl, hP, hG⟩ := hv
  rw [lg_entry_eq]
  exact body p e s m below meth c _ _ ⟨B.exec, B.bytes, hml, findClass_of_methodNamed B.named, atoms_spec (ws := ws) B.pre, B.notSynchronized⟩ hP hG
    (fun pc ls hd => W.aret B.exec B.bytes B.returns (Or.inl ⟨_, rfl⟩) (Or.inr ⟨_, rfl⟩) (fun t ht hW => ⟨a, rfl, rfl, ht⟩) (fun q hq => nomatch hq) hd B.notSynchronized) (lv_entry av hlen)
theorem gW_i {S : Type} {post : Int32 → S → Prop} {wo : S → va_W} {sz : Nat} (hy : plainName y.cls = true) (hw : ws = Cond.code y cc maxL (some ty) :: ws') (hlen : (lg_sl av).length ≤ maxL) (hn : ∀ v u, post v u → narrow ty (.int v) = .int v)
    (body : ∀ (p : Program) (e : Env) (s : State) (m : MethodId) (below : List Frame) (meth : Method) (c : Code) (Q : State → Prop) (A : Nat → Prop) (ls : Array Slot), gFx y.cls cc maxL ws p s m av.toArray meth c → va_P D vwCl wd s.heap → gG D tys s → va_D A wd → (∀ q : Nat, s.heap.size ≤ q → A q) →
      (∀ (H : Heap) (locs : List Loc) (pc : Nat) (ls : Array Slot) (v : Int32) (u : S), decode cc pc = .ok (.ireturn, 1) → post v u → va_P D vwCl (wo u) H → va_D A (wo u) → va_S A s.heap H locs → W p l e rm s m av.toArray below meth c H locs 0 0 Q (F0 m pc ls [.int v])) →
      lv_has ls maxL (lv_args 0 av) → W p l e rm s m av.toArray below meth c s.heap [] 0 0 Q (F0 m 0 ls [])) : Met l y ws rm (va_Pc av (gI D tys wd sz)) (va_Qi post (gO D wo (va_A wd sz)) (va_A wd sz)) 0 0 (va_A wd sz) := by
  refine Met.ofW (cc := cc) (maxL := maxL) (ret := some ty) hy hw ?_
  intro p e s m args below meth c s₁ B hml hv
  obtain ⟨rfl, hsz, hP, hG, hD⟩ := hv
  subst hsz
  rw [lg_entry_eq]
  exact body p e s m below meth c _ (va_A wd s.heap.size) _ ⟨B.exec, B.bytes, hml, findClass_of_methodNamed B.named, atoms_spec (ws := ws) B.pre, B.notSynchronized⟩ hP hG hD.self (fun q h => Or.inr h)
    (fun H locs pc ls v u hd hp hPo hDo hS => W.zret B.exec B.bytes B.returns (hn v u hp) (fun t ht hW => ⟨⟨v, u, rfl, hp, by rw [ht]; exact hPo, hDo⟩, hS.F ht⟩) hS.2.2 hd B.notSynchronized) (lv_entry av hlen)
theorem gW_v {S : Type} {post : S → Prop} {wo : S → va_W} {sz : Nat} (hy : plainName y.cls = true) (hw : ws = Cond.code y cc maxL none :: ws') (hlen : (lg_sl av).length ≤ maxL)
    (body : ∀ (p : Program) (e : Env) (s : State) (m : MethodId) (below : List Frame) (meth : Method) (c : Code) (Q : State → Prop) (A : Nat → Prop) (ls : Array Slot), gFx y.cls cc maxL ws p s m av.toArray meth c → va_P D vwCl wd s.heap → gG D tys s → va_D A wd → (∀ q : Nat, s.heap.size ≤ q → A q) →
      (∀ (H : Heap) (locs : List Loc) (pc : Nat) (ls : Array Slot) (u : S), decode cc pc = .ok (.return_, 1) → post u → va_P D vwCl (wo u) H → va_D A (wo u) → va_S A s.heap H locs → W p l e rm s m av.toArray below meth c H locs 0 0 Q (F0 m pc ls [])) →
      lv_has ls maxL (lv_args 0 av) → W p l e rm s m av.toArray below meth c s.heap [] 0 0 Q (F0 m 0 ls [])) : Met l y ws rm (va_Pc av (gI D tys wd sz)) (va_Qv post (gO D wo (va_A wd sz)) (va_A wd sz)) 0 0 (va_A wd sz) := by
  refine Met.ofW (cc := cc) (maxL := maxL) (ret := none) hy hw ?_
  intro p e s m args below meth c s₁ B hml hv
  obtain ⟨rfl, hsz, hP, hG, hD⟩ := hv
  subst hsz
  rw [lg_entry_eq]
  exact body p e s m below meth c _ (va_A wd s.heap.size) _ ⟨B.exec, B.bytes, hml, findClass_of_methodNamed B.named, atoms_spec (ws := ws) B.pre, B.notSynchronized⟩ hP hG hD.self (fun q h => Or.inr h)
    (fun H locs pc ls u hd hp hPo hDo hS => W.vret B.exec B.bytes B.returns (fun t ht hW => ⟨⟨u, rfl, hp, by rw [ht]; exact hPo, hDo⟩, hS.F ht⟩) hS.2.2 hd B.notSynchronized) (lv_entry av hlen)
end GM
theorem g_fm {w wn : va_W} {is : List Nat} (h : is.map (fun i => w[i]?) = wn.map some) : is.filterMap (fun i => w[i]?) = wn := by
  have e : is.filterMap (fun i => w[i]?) = (is.map (fun i => w[i]?)).filterMap id := by rw [List.filterMap_map]; rfl
  rw [e, h, List.filterMap_map]
  exact List.filterMap_some
section GC
variable {p : Program} {l : Launch} {e : Env} {R : Room} {s : State} {m : MethodId} {args : Array Value} {below : List Frame} {meth : Method} {c : Code} {H : Heap} {locs : List Loc} {cells slots : Nat} {Q : State → Prop}
variable {pc : Nat} {ls : Array Slot} {rest st0 : List Value} {a : Array Value} {D : va_G} {tys : List (ClassId × FieldType)}
/-- the start of a call of ours, on an object or on none -/
theorem gpVR {b : Nat} {As : List Value} {wc : va_W} {ci q0 : Nat} {fs : List Value} {q : vw_C} (hG : gG D tys s) (hP : va_P D vwCl wc H) (hc : vwCl[ci]? = some q) (he : wc[q0]? = some (b, .inr (ci, fs))) : PreV s H q.1 b (va_Pc (.ref b :: As) (gR D tys wc)) As :=
  ⟨gR_blind, va_recv hG.1 hP hc he, fun U hU hW => ⟨rfl, by rw [hU]; exact hP, hG.warm hW⟩⟩
theorem gpSR {As : List Value} {wc : va_W} (hG : gG D tys s) (hP : va_P D vwCl wc H) : PreS s H (va_Pc As (gR D tys wc)) As :=
  ⟨gR_blind, fun U hU hW => ⟨rfl, by rw [hU]; exact hP, hG.warm hW⟩⟩
theorem gpVI {b : Nat} {As : List Value} {wc : va_W} {A0 : Nat → Prop} {ci q0 : Nat} {fs : List Value} {q : vw_C} (hG : gG D tys s) (hP : va_P D vwCl wc H) (hD : va_D A0 wc) (hc : vwCl[ci]? = some q) (he : wc[q0]? = some (b, .inr (ci, fs))) : PreV s H q.1 b (va_Pc (.ref b :: As) (gI D tys wc H.size)) As :=
  ⟨gI_blind, va_recv hG.1 hP hc he, fun U hU hW => ⟨rfl, by rw [hU], by rw [hU]; exact hP, hG.warm hW, hD.weaken (fun _ _ _ _ => trivial)⟩⟩
theorem gpSI {As : List Value} {wc : va_W} {A0 : Nat → Prop} (hG : gG D tys s) (hP : va_P D vwCl wc H) (hD : va_D A0 wc) : PreS s H (va_Pc As (gI D tys wc H.size)) As :=
  ⟨gI_blind, fun U hU hW => ⟨rfl, by rw [hU], by rw [hU]; exact hP, hG.warm hW, hD.weaken (fun _ _ _ _ => trivial)⟩⟩
/-- behind a call that reads -/
theorem gc_Si {E : Int32} (hr : va_Run p l e R s m args below meth c H locs cells slots 0 0 (F0 m pc ls st0) rest (vp_Si (fun r => r = E) a) (fun _ => False)) (kk : W p l e R s m args below meth c H locs cells slots Q (F0 m (pc + 3) ls (.int E :: rest))) : W p l e R s m args below meth c H locs cells slots Q (F0 m pc ls st0) :=
  vp_callSi (va_Run.run hr) (fun r hr => by rw [hr]; exact kk)
theorem gc_Sl {E : Int64} (hr : va_Run p l e R s m args below meth c H locs cells slots 0 0 (F0 m pc ls st0) rest (vp_Sl (fun r => r = E) a) (fun _ => False)) (kk : W p l e R s m args below meth c H locs cells slots Q (F0 m (pc + 3) ls (.long E :: rest))) : W p l e R s m args below meth c H locs cells slots Q (F0 m pc ls st0) :=
  vp_callSl (va_Run.run hr) (fun r hr => by rw [hr]; exact kk)
theorem gc_Sa {E : Nat} (hr : va_Run p l e R s m args below meth c H locs cells slots 0 0 (F0 m pc ls st0) rest (va_Sr (fun k => k = E) Value.ref a) (fun _ => False)) (kk : W p l e R s m args below meth c H locs cells slots Q (F0 m (pc + 3) ls (.ref E :: rest))) : W p l e R s m args below meth c H locs cells slots Q (F0 m pc ls st0) :=
  va_csr (va_Run.run hr) (fun r hr => by rw [hr]; exact kk)
theorem gc_Sv (hr : va_Run p l e R s m args below meth c H locs cells slots 0 0 (F0 m pc ls st0) rest (va_Sv (fun _ => True) a) (fun _ => False)) (kk : W p l e R s m args below meth c H locs cells slots Q (F0 m (pc + 3) ls rest)) : W p l e R s m args below meth c H locs cells slots Q (F0 m pc ls st0) :=
  va_csv (va_Run.run hr) (fun _ => kk)
/-- behind a call that writes: the cells in the order wn -/
theorem gc_Wi {S : Type} {post : Int32 → S → Prop} {wo wn : S → va_W} {ws wc wr : va_W} {A0 : Nat → Prop} {H0 : Heap} (hr : va_Run p l e R s m args below meth c H locs cells slots 0 0 (F0 m pc ls st0) rest (va_Qi post (gO D wo (va_A wc H.size)) (va_A wc H.size) a) (va_A wc H.size))
    (hP : va_P D vwCl ws H) (hD : va_D A0 ws) (hS : va_S A0 H0 H locs) (hA : ∀ q, H0.size ≤ q → A0 q) (isC isR isP : List Nat) (hC : isC.map (fun i => ws[i]?) = wc.map some) (hR : isR.map (fun i => ws[i]?) = wr.map some) (hn : va_nd isR = true) (hdis : ∀ i ∈ isR, i ∉ isC)
    (hp : ∀ u, isP.map (fun i => (wr ++ wo u)[i]?) = (wn u).map some) (hnp : va_nd isP = true)
    (kk : ∀ (r : Int32) (u : S) (H1 : Heap) (locs1 : List Loc), post r u → va_P D vwCl (wn u) H1 → va_D A0 (wn u) → va_S A0 H0 H1 locs1 → W p l e R s m args below meth c H1 locs1 cells slots Q (F0 m (pc + 3) ls (.int r :: rest))) : W p l e R s m args below meth c H locs cells slots Q (F0 m pc ls st0) := by
  have hF := va_free (wc := wc) hD hS hA isC hC
  refine va_calli hr hS (fun q _ h => hF q h) hF (fun r u t H1 locs1 ht hvm hw hB hz1 hk1 hS1 => ?_)
  obtain ⟨hP1, hD1⟩ := hB
  rw [ht] at hP1
  obtain ⟨hP2, hD2⟩ := va_join hP hD isC isR hC hR hn hdis hk1 hF hP1 hD1
  exact kk r u H1 locs1 hw (hP2.sub isP (g_fm (hp u))) (hD2.sub isP hnp (hp u)) hS1
theorem gc_Wv {S : Type} {post : S → Prop} {wo wn : S → va_W} {ws wc wr : va_W} {A0 : Nat → Prop} {H0 : Heap} (hr : va_Run p l e R s m args below meth c H locs cells slots 0 0 (F0 m pc ls st0) rest (va_Qv post (gO D wo (va_A wc H.size)) (va_A wc H.size) a) (va_A wc H.size))
    (hP : va_P D vwCl ws H) (hD : va_D A0 ws) (hS : va_S A0 H0 H locs) (hA : ∀ q, H0.size ≤ q → A0 q) (isC isR isP : List Nat) (hC : isC.map (fun i => ws[i]?) = wc.map some) (hR : isR.map (fun i => ws[i]?) = wr.map some) (hn : va_nd isR = true) (hdis : ∀ i ∈ isR, i ∉ isC)
    (hp : ∀ u, isP.map (fun i => (wr ++ wo u)[i]?) = (wn u).map some) (hnp : va_nd isP = true)
    (kk : ∀ (u : S) (H1 : Heap) (locs1 : List Loc), post u → va_P D vwCl (wn u) H1 → va_D A0 (wn u) → va_S A0 H0 H1 locs1 → W p l e R s m args below meth c H1 locs1 cells slots Q (F0 m (pc + 3) ls rest)) : W p l e R s m args below meth c H locs cells slots Q (F0 m pc ls st0) := by
  have hF := va_free (wc := wc) hD hS hA isC hC
  refine va_callv hr hS (fun q _ h => hF q h) hF (fun u t H1 locs1 ht hvm hw hB hz1 hk1 hS1 => ?_)
  obtain ⟨hP1, hD1⟩ := hB
  rw [ht] at hP1
  obtain ⟨hP2, hD2⟩ := va_join hP hD isC isR hC hR hn hdis hk1 hF hP1 hD1
  exact kk u H1 locs1 hw (hP2.sub isP (g_fm (hp u))) (hD2.sub isP hnp (hp u)) hS1
/-- the top of the stack, said otherwise -/
theorem g_ti {x y : Int32} (h : x = y) (k : W p l e R s m args below meth c H locs cells slots Q (F0 m pc ls (.int y :: rest))) : W p l e R s m args below meth c H locs cells slots Q (F0 m pc ls (.int x :: rest)) := by rw [h]; exact k
theorem g_tl {x y : Int64} (h : x = y) (k : W p l e R s m args below meth c H locs cells slots Q (F0 m pc ls (.long y :: rest))) : W p l e R s m args below meth c H locs cells slots Q (F0 m pc ls (.long x :: rest)) := by rw [h]; exact k
theorem g_tv {x y : Value} (h : x = y) (k : W p l e R s m args below meth c H locs cells slots Q (F0 m pc ls (y :: rest))) : W p l e R s m args below meth c H locs cells slots Q (F0 m pc ls (x :: rest)) := by rw [h]; exact k
variable {cc : ByteArray} {A : Nat → Prop} {b : Nat} {ws : va_W} {H0 : Heap}
/-! arrays, by a place that is a whole number -/
theorem g_iald (hexec : p.tables.exec = Jvm.exec) (hb : c.code = cc) (hG : gG D tys s) (hP : va_P D vwCl ws H) (q0 t0 : Nat) {cA : ClassId} {n : Nat} {f : Nat → Int32} (ha : ws[q0]? = some (b, .inl (cA, n, .inl f))) (ht : tys[t0]? = some (cA, .int)) {k : Nat} (hk : k < n) (hn : n < 2 ^ 31) (hdg : decode cc pc = .ok (.iaload, 1))
    (kk : W p l e R s m args below meth c H locs cells slots Q (F0 m (pc + 1) ls (.int (f k) :: rest))) : W p l e R s m args below meth c H locs cells slots Q (F0 m pc ls (.int (nI k) :: .ref b :: rest)) :=
  va_iald hexec hb hG.1 hP q0 t0 ha ht (vp_in_nI hk hn) hdg (by rw [nI_clamp (Nat.lt_trans hk hn)]; exact kk)
theorem g_zald (hexec : p.tables.exec = Jvm.exec) (hb : c.code = cc) (hG : gG D tys s) (hP : va_P D vwCl ws H) (q0 t0 : Nat) {cA : ClassId} {n : Nat} {f : Nat → Int32} (ha : ws[q0]? = some (b, .inl (cA, n, .inl f))) (ht : tys[t0]? = some (cA, .boolean)) {k : Nat} (hk : k < n) (hn : n < 2 ^ 31) (hdg : decode cc pc = .ok (.baload, 1))
    (kk : W p l e R s m args below meth c H locs cells slots Q (F0 m (pc + 1) ls (.int (f k) :: rest))) : W p l e R s m args below meth c H locs cells slots Q (F0 m pc ls (.int (nI k) :: .ref b :: rest)) :=
  va_zald hexec hb hG.1 hP q0 t0 ha ht (vp_in_nI hk hn) hdg (by rw [nI_clamp (Nat.lt_trans hk hn)]; exact kk)
theorem g_lald (hexec : p.tables.exec = Jvm.exec) (hb : c.code = cc) (hG : gG D tys s) (hP : va_P D vwCl ws H) (q0 t0 : Nat) {cA : ClassId} {n : Nat} {f : Nat → Int64} (ha : ws[q0]? = some (b, .inl (cA, n, .inr (.inl f)))) (ht : tys[t0]? = some (cA, .long)) {k : Nat} (hk : k < n) (hn : n < 2 ^ 31) (hdg : decode cc pc = .ok (.laload, 1))
    (kk : W p l e R s m args below meth c H locs cells slots Q (F0 m (pc + 1) ls (.long (f k) :: rest))) : W p l e R s m args below meth c H locs cells slots Q (F0 m pc ls (.int (nI k) :: .ref b :: rest)) :=
  va_lald hexec hb hG.1 hP q0 t0 ha ht (vp_in_nI hk hn) hdg (by rw [nI_clamp (Nat.lt_trans hk hn)]; exact kk)
theorem g_aldq (hexec : p.tables.exec = Jvm.exec) (hb : c.code = cc) (hG : gG D tys s) (hP : va_P D vwCl ws H) (q0 t0 : Nat) {cA : ClassId} {C : String} {n : Nat} {f : Nat → Option Nat} (ha : ws[q0]? = some (b, .inl (cA, n, .inr (.inr (.inr (.inr f)))))) (ht : tys[t0]? = some (cA, .object C)) {k x : Nat} (hk : k < n) (hn : n < 2 ^ 31) (hx : f k = some x) (hdg : decode cc pc = .ok (.aaload, 1))
    (kk : W p l e R s m args below meth c H locs cells slots Q (F0 m (pc + 1) ls (.ref x :: rest))) : W p l e R s m args below meth c H locs cells slots Q (F0 m pc ls (.int (nI k) :: .ref b :: rest)) :=
  va_aldq hexec hb hG.1 hP q0 t0 ha ht (vp_in_nI hk hn) hdg (by rw [nI_clamp (Nat.lt_trans hk hn), hx]; exact kk)
theorem g_iast (hexec : p.tables.exec = Jvm.exec) (hb : c.code = cc) (hG : gG D tys s) (hP : va_P D vwCl ws H) (hD : va_D A ws) (hS : va_S A H0 H locs) (q0 t0 : Nat) {cA : ClassId} {n : Nat} {f : Nat → Int32} (ha : ws[q0]? = some (b, .inl (cA, n, .inl f))) (ht : tys[t0]? = some (cA, .int)) {k : Nat} {x : Int32} (hk : k < n) (hn : n < 2 ^ 31) (hdg : decode cc pc = .ok (.iastore, 1))
    (kk : ∀ (H1 : Heap) (locs1 : List Loc), va_P D vwCl (ws.set q0 (b, .inl (cA, n, .inl (upd f k x)))) H1 → va_D A (ws.set q0 (b, .inl (cA, n, .inl (upd f k x)))) → va_S A H0 H1 locs1 → W p l e R s m args below meth c H1 locs1 cells slots Q (F0 m (pc + 1) ls rest)) : W p l e R s m args below meth c H locs cells slots Q (F0 m pc ls (.int x :: .int (nI k) :: .ref b :: rest)) :=
  va_iast hexec hb hG.1 hP hD hS q0 t0 ha ht (vp_in_nI hk hn) hdg (by rw [nI_clamp (Nat.lt_trans hk hn)]; exact kk)
theorem g_zast (hexec : p.tables.exec = Jvm.exec) (hb : c.code = cc) (hG : gG D tys s) (hP : va_P D vwCl ws H) (hD : va_D A ws) (hS : va_S A H0 H locs) (q0 t0 : Nat) {cA : ClassId} {n : Nat} {f : Nat → Int32} (ha : ws[q0]? = some (b, .inl (cA, n, .inl f))) (ht : tys[t0]? = some (cA, .boolean)) {k : Nat} {x : Int32} (hk : k < n) (hn : n < 2 ^ 31) (hx : vp_nar .boolean x = x) (hdg : decode cc pc = .ok (.bastore, 1))
    (kk : ∀ (H1 : Heap) (locs1 : List Loc), va_P D vwCl (ws.set q0 (b, .inl (cA, n, .inl (upd f k x)))) H1 → va_D A (ws.set q0 (b, .inl (cA, n, .inl (upd f k x)))) → va_S A H0 H1 locs1 → W p l e R s m args below meth c H1 locs1 cells slots Q (F0 m (pc + 1) ls rest)) : W p l e R s m args below meth c H locs cells slots Q (F0 m pc ls (.int x :: .int (nI k) :: .ref b :: rest)) :=
  va_zast hexec hb hG.1 hP hD hS q0 t0 ha ht (vp_in_nI hk hn) hdg (by rw [nI_clamp (Nat.lt_trans hk hn), hx]; exact kk)
theorem g_last (hexec : p.tables.exec = Jvm.exec) (hb : c.code = cc) (hG : gG D tys s) (hP : va_P D vwCl ws H) (hD : va_D A ws) (hS : va_S A H0 H locs) (q0 t0 : Nat) {cA : ClassId} {n : Nat} {f : Nat → Int64} (ha : ws[q0]? = some (b, .inl (cA, n, .inr (.inl f)))) (ht : tys[t0]? = some (cA, .long)) {k : Nat} {x : Int64} (hk : k < n) (hn : n < 2 ^ 31) (hdg : decode cc pc = .ok (.lastore, 1))
    (kk : ∀ (H1 : Heap) (locs1 : List Loc), va_P D vwCl (ws.set q0 (b, .inl (cA, n, .inr (.inl (vp_updL f k x))))) H1 → va_D A (ws.set q0 (b, .inl (cA, n, .inr (.inl (vp_updL f k x))))) → va_S A H0 H1 locs1 → W p l e R s m args below meth c H1 locs1 cells slots Q (F0 m (pc + 1) ls rest)) : W p l e R s m args below meth c H locs cells slots Q (F0 m pc ls (.long x :: .int (nI k) :: .ref b :: rest)) :=
  va_last hexec hb hG.1 hP hD hS q0 t0 ha ht (vp_in_nI hk hn) hdg (by rw [nI_clamp (Nat.lt_trans hk hn)]; exact kk)
end GC
/-! the cells -/
abbrev gT (cy : Nat → ClassId) : List (ClassId × FieldType) := [(cy 0, .int), (cy 1, .long), (cy 2, .int), (cy 3, .object "DirtyTiles$Client")]
abbrev gT3 (cy : Nat → ClassId) : List (ClassId × FieldType) := [(cy 0, .int), (cy 1, .long), (cy 2, .int)]
abbrev eScr (t : Nat) : va_E := .inr (2, [.ref t])
abbrev eCch (t : Nat) (n : Int32) : va_E := .inr (0, [.ref t, .int n])
abbrev eCli (j : Int32) (os oc sc dt : Nat) (dc : Int32) (mt mc : Nat) (k : Int32) : va_E := .inr (1, [.int j, .ref os, .ref oc, .ref sc, .ref dt, .int dc, .ref mt, .ref mc, .int k])
abbrev eTop (sc sb cl tw : Nat) (u : Int32) : va_E := .inr (3, [.ref sc, .ref sb, .ref cl, .ref tw, .int u])
abbrev eMod (th : Int32) (q : Nat → Nat) (un : Int32) : va_E := .inr (4, [.int th, .ref (q 1), .ref (q 2), .ref (q 3), .ref (q 4), .ref (q 5), .ref (q 6), .ref (q 7), .ref (q 8), .ref (q 9), .ref (q 10), .ref (q 11), .ref (q 12), .ref (q 13), .ref (q 14), .int un, .ref (q 16)])
abbrev eI (cy : Nat → ClassId) (n : Nat) (f : Nat → Int32) : va_E := .inl (cy 0, n, .inl f)
abbrev eJ (cy : Nat → ClassId) (n : Nat) (f : Nat → Int64) : va_E := .inl (cy 1, n, .inr (.inl f))
abbrev eZ (cy : Nat → ClassId) (n : Nat) (f : Nat → Int32) : va_E := .inl (cy 2, n, .inl f)
abbrev eQ (cy : Nat → ClassId) (n : Nat) (f : Nat → Option Nat) : va_E := .inl (cy 3, n, .inr (.inr (.inr (.inr f))))
