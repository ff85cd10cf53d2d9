section
-- ===== PART A: goes FIRST, ahead of the names: the tables' words, and 'selects' of the private methods out of them =====
/-- a private method of a class that the tables say can be made, by its rows of tables_1 -/
def lw_okq (q : MethodName × Nat) : Prop := (q.1.cls ≠ "java/lang/invoke/MethodHandle" ∧ q.1.cls ≠ "java/lang/invoke/VarHandle") ∧ Cond.instantiable q.1.cls q.2 ∈ tables_1 ∧ Cond.privateMethod q.1 ∈ tables_1 ∧ Cond.instanceMethod q.1 ∈ tables_1
theorem lw_p0 : lw_okq (⟨"java/lang/Throwable", "fillInStackTrace", "(I)Ljava/lang/Throwable;"⟩, 6) := ⟨⟨by decide +kernel, by decide +kernel⟩, List.mem_of_getElem? (i := 166) (by decide +kernel), List.mem_of_getElem? (i := 164) (by decide +kernel), List.mem_of_getElem? (i := 165) (by decide +kernel)⟩
theorem lw_p1 : lw_okq (⟨"DirtyTiles", "noteChanges", "()I"⟩, 5) := ⟨⟨by decide +kernel, by decide +kernel⟩, List.mem_of_getElem? (i := 15) (by decide +kernel), List.mem_of_getElem? (i := 212) (by decide +kernel), List.mem_of_getElem? (i := 213) (by decide +kernel)⟩
theorem lw_p2 : lw_okq (⟨"DirtyTiles", "makeDirtyForAll", "(I)V"⟩, 5) := ⟨⟨by decide +kernel, by decide +kernel⟩, List.mem_of_getElem? (i := 15) (by decide +kernel), List.mem_of_getElem? (i := 227) (by decide +kernel), List.mem_of_getElem? (i := 228) (by decide +kernel)⟩
theorem lw_p3 : lw_okq (⟨"DirtyTiles$Cache", "placeOf", "(J)I"⟩, 2) := ⟨⟨by decide +kernel, by decide +kernel⟩, List.mem_of_getElem? (i := 43) (by decide +kernel), List.mem_of_getElem? (i := 325) (by decide +kernel), List.mem_of_getElem? (i := 326) (by decide +kernel)⟩
theorem lw_p4 : lw_okq (⟨"DirtyTiles", "writeMessage", "(LDirtyTiles$Client;I)V"⟩, 5) := ⟨⟨by decide +kernel, by decide +kernel⟩, List.mem_of_getElem? (i := 15) (by decide +kernel), List.mem_of_getElem? (i := 366) (by decide +kernel), List.mem_of_getElem? (i := 367) (by decide +kernel)⟩
theorem lw_p5 : lw_okq (⟨"DirtyTilesModel", "goesWell", "(I)Z"⟩, 17) := ⟨⟨by decide +kernel, by decide +kernel⟩, List.mem_of_getElem? (i := 490) (by decide +kernel), List.mem_of_getElem? (i := 566) (by decide +kernel), List.mem_of_getElem? (i := 567) (by decide +kernel)⟩
theorem lw_p6 : lw_okq (⟨"DirtyTilesModel", "keep", "()V"⟩, 17) := ⟨⟨by decide +kernel, by decide +kernel⟩, List.mem_of_getElem? (i := 490) (by decide +kernel), List.mem_of_getElem? (i := 570) (by decide +kernel), List.mem_of_getElem? (i := 571) (by decide +kernel)⟩
theorem lw_p7 : lw_okq (⟨"DirtyTilesModel", "settle", "()I"⟩, 17) := ⟨⟨by decide +kernel, by decide +kernel⟩, List.mem_of_getElem? (i := 490) (by decide +kernel), List.mem_of_getElem? (i := 574) (by decide +kernel), List.mem_of_getElem? (i := 575) (by decide +kernel)⟩
theorem lw_p8 : lw_okq (⟨"DirtyTilesModel", "soil", "(II)V"⟩, 17) := ⟨⟨by decide +kernel, by decide +kernel⟩, List.mem_of_getElem? (i := 490) (by decide +kernel), List.mem_of_getElem? (i := 581) (by decide +kernel), List.mem_of_getElem? (i := 582) (by decide +kernel)⟩
theorem lw_p9 : lw_okq (⟨"DirtyTilesModel", "look", "(I)V"⟩, 17) := ⟨⟨by decide +kernel, by decide +kernel⟩, List.mem_of_getElem? (i := 490) (by decide +kernel), List.mem_of_getElem? (i := 600) (by decide +kernel), List.mem_of_getElem? (i := 601) (by decide +kernel)⟩
theorem lw_p10 : lw_okq (⟨"DirtyTilesModel", "countColours", "()I"⟩, 17) := ⟨⟨by decide +kernel, by decide +kernel⟩, List.mem_of_getElem? (i := 490) (by decide +kernel), List.mem_of_getElem? (i := 604) (by decide +kernel), List.mem_of_getElem? (i := 605) (by decide +kernel)⟩
theorem lw_p11 : lw_okq (⟨"DirtyTilesModel", "countRuns", "()I"⟩, 17) := ⟨⟨by decide +kernel, by decide +kernel⟩, List.mem_of_getElem? (i := 490) (by decide +kernel), List.mem_of_getElem? (i := 612) (by decide +kernel), List.mem_of_getElem? (i := 613) (by decide +kernel)⟩
theorem lw_p12 : lw_okq (⟨"DirtyTilesModel", "wayOf", "(I)I"⟩, 17) := ⟨⟨by decide +kernel, by decide +kernel⟩, List.mem_of_getElem? (i := 490) (by decide +kernel), List.mem_of_getElem? (i := 623) (by decide +kernel), List.mem_of_getElem? (i := 624) (by decide +kernel)⟩
theorem lw_p13 : lw_okq (⟨"DirtyTilesModel", "find", "(I)I"⟩, 17) := ⟨⟨by decide +kernel, by decide +kernel⟩, List.mem_of_getElem? (i := 490) (by decide +kernel), List.mem_of_getElem? (i := 627) (by decide +kernel), List.mem_of_getElem? (i := 628) (by decide +kernel)⟩
theorem lw_p14 : lw_okq (⟨"DirtyTilesModel", "write", "(II)I"⟩, 17) := ⟨⟨by decide +kernel, by decide +kernel⟩, List.mem_of_getElem? (i := 490) (by decide +kernel), List.mem_of_getElem? (i := 642) (by decide +kernel), List.mem_of_getElem? (i := 643) (by decide +kernel)⟩
theorem lw_p15 : lw_okq (⟨"DirtyTilesModel", "cache", "(I)V"⟩, 17) := ⟨⟨by decide +kernel, by decide +kernel⟩, List.mem_of_getElem? (i := 490) (by decide +kernel), List.mem_of_getElem? (i := 646) (by decide +kernel), List.mem_of_getElem? (i := 647) (by decide +kernel)⟩
def lw_privs_1 : List (MethodName × Nat) := [(⟨"java/lang/Throwable", "fillInStackTrace", "(I)Ljava/lang/Throwable;"⟩, 6), (⟨"DirtyTiles", "noteChanges", "()I"⟩, 5), (⟨"DirtyTiles", "makeDirtyForAll", "(I)V"⟩, 5), (⟨"DirtyTiles$Cache", "placeOf", "(J)I"⟩, 2), (⟨"DirtyTiles", "writeMessage", "(LDirtyTiles$Client;I)V"⟩, 5), (⟨"DirtyTilesModel", "goesWell", "(I)Z"⟩, 17), (⟨"DirtyTilesModel", "keep", "()V"⟩, 17), (⟨"DirtyTilesModel", "settle", "()I"⟩, 17), (⟨"DirtyTilesModel", "soil", "(II)V"⟩, 17), (⟨"DirtyTilesModel", "look", "(I)V"⟩, 17), (⟨"DirtyTilesModel", "countColours", "()I"⟩, 17), (⟨"DirtyTilesModel", "countRuns", "()I"⟩, 17), (⟨"DirtyTilesModel", "wayOf", "(I)I"⟩, 17), (⟨"DirtyTilesModel", "find", "(I)I"⟩, 17), (⟨"DirtyTilesModel", "write", "(II)I"⟩, 17), (⟨"DirtyTilesModel", "cache", "(I)V"⟩, 17)]
theorem lw_r1 : ∀ q ∈ lw_privs_1, lw_okq q := List.forall_mem_cons.mpr ⟨lw_p0, List.forall_mem_cons.mpr ⟨lw_p1, List.forall_mem_cons.mpr ⟨lw_p2, List.forall_mem_cons.mpr ⟨lw_p3, List.forall_mem_cons.mpr ⟨lw_p4, List.forall_mem_cons.mpr ⟨lw_p5, List.forall_mem_cons.mpr ⟨lw_p6, List.forall_mem_cons.mpr ⟨lw_p7, List.forall_mem_cons.mpr ⟨lw_p8, List.forall_mem_cons.mpr ⟨lw_p9, List.forall_mem_cons.mpr ⟨lw_p10, List.forall_mem_cons.mpr ⟨lw_p11, List.forall_mem_cons.mpr ⟨lw_p12, List.forall_mem_cons.mpr ⟨lw_p13, List.forall_mem_cons.mpr ⟨lw_p14, List.forall_mem_cons.mpr ⟨lw_p15, fun _ h => absurd h List.not_mem_nil⟩⟩⟩⟩⟩⟩⟩⟩⟩⟩⟩⟩⟩⟩⟩⟩
theorem lw_p16 : lw_okq (⟨"DirtyTilesModel", "shift", "([III)V"⟩, 17) := ⟨⟨by decide +kernel, by decide +kernel⟩, List.mem_of_getElem? (i := 490) (by decide +kernel), List.mem_of_getElem? (i := 650) (by decide +kernel), List.mem_of_getElem? (i := 651) (by decide +kernel)⟩
theorem lw_p17 : lw_okq (⟨"DirtyTilesModel", "cacheOwn", "(I)V"⟩, 17) := ⟨⟨by decide +kernel, by decide +kernel⟩, List.mem_of_getElem? (i := 490) (by decide +kernel), List.mem_of_getElem? (i := 658) (by decide +kernel), List.mem_of_getElem? (i := 659) (by decide +kernel)⟩
theorem lw_p18 : lw_okq (⟨"DirtyTilesModel", "findOwn", "(I)I"⟩, 17) := ⟨⟨by decide +kernel, by decide +kernel⟩, List.mem_of_getElem? (i := 490) (by decide +kernel), List.mem_of_getElem? (i := 662) (by decide +kernel), List.mem_of_getElem? (i := 663) (by decide +kernel)⟩
theorem lw_p19 : lw_okq (⟨"DirtyTilesModel", "isJoined", "(I)Z"⟩, 17) := ⟨⟨by decide +kernel, by decide +kernel⟩, List.mem_of_getElem? (i := 490) (by decide +kernel), List.mem_of_getElem? (i := 674) (by decide +kernel), List.mem_of_getElem? (i := 675) (by decide +kernel)⟩
def lw_privs_2 : List (MethodName × Nat) := [(⟨"DirtyTilesModel", "shift", "([III)V"⟩, 17), (⟨"DirtyTilesModel", "cacheOwn", "(I)V"⟩, 17), (⟨"DirtyTilesModel", "findOwn", "(I)I"⟩, 17), (⟨"DirtyTilesModel", "isJoined", "(I)Z"⟩, 17)]
theorem lw_r2 : ∀ q ∈ lw_privs_2, lw_okq q := List.forall_mem_cons.mpr ⟨lw_p16, List.forall_mem_cons.mpr ⟨lw_p17, List.forall_mem_cons.mpr ⟨lw_p18, List.forall_mem_cons.mpr ⟨lw_p19, fun _ h => absurd h List.not_mem_nil⟩⟩⟩⟩
def lw_privs : List (MethodName × Nat) := lw_privs_1 ++ (lw_privs_2)
def lw_tbl : List Cond := k2_sels lw_privs ++ tables_1
theorem lw_privs_ok : ∀ q ∈ lw_privs, lw_okq q := by
  show ∀ q ∈ lw_privs_1 ++ (lw_privs_2), lw_okq q
  exact List.forall_mem_append.mpr ⟨lw_r1, lw_r2⟩
-- ===== end of PART A; then your names; then what follows =====
/-! ===== BEGIN words of one list among another's, by their places ===== -/
theorem goodIn_r {big : List Cond} (ws : List Cond) (ps : List Nat) (hp : ws = ps.filterMap (fun i => big[i]?)) (h : ws.all goodWord = true) : GoodIn big ws := by
  intro w hw
  have h1 := List.all_eq_true.mp h w hw
  rw [hp] at hw
  obtain ⟨i, -, hi⟩ := List.mem_filterMap.mp hw
  have hm : w ∈ big := by first | exact List.mem_of_getElem? hi | exact List.getElem?_mem hi
  exact ⟨hm, good_of_word h1⟩
theorem goodIn_app {big a b : List Cond} (ha : GoodIn big a) (hb : GoodIn big b) : GoodIn big (a ++ b) := fun w h => (List.mem_append.mp h).elim (ha w) (hb w)
theorem goodIn_ca {big a b : List Cond} {c : Cond} (ha : GoodIn big (c :: a)) (hb : GoodIn big b) : GoodIn big (c :: (a ++ b)) := fun w h => (List.mem_cons.mp h).elim (fun e => ha w (List.mem_cons.mpr (Or.inl e))) (fun h => (List.mem_append.mp h).elim (fun h => ha w (List.mem_cons.mpr (Or.inr h))) (hb w))
theorem goodIn_sub {big ws : List Cond} (hm : ∀ w ∈ ws, w ∈ big) (h : ws.all goodWord = true) : GoodIn big ws := fun w hw => ⟨hm w hw, good_of_word (List.all_eq_true.mp h w hw)⟩
/-! ===== END ===== -/

/-! ===== BEGIN exceptions that leave a method, and their catching by the caller (launches without stack traces) ===== -/
section VXA
/-! The laws vx_back, vx_callV, vx_callS, vx_callSW, vx_throw0, vx_throwS follow proofs of the library, with one case more: JvmDerived/Free/Laws.lean (Back.of_free), Shelf42/LK1.lean (callV, callS), Shelf/KitTraced.lean (throwNew0V, throwNewS). -/
/-- where a method has thrown q: the class by its name, the cell, what was written, the world -/
def vx_T (XC : String → State → State → Prop) (st : State) (q : Addr) (t : State) (mc ms : Nat) (free : Addr → Prop) : Prop :=
  ∃ (E : String) (ce : Cell) (L : List Loc), XC E st t ∧ t.heap[q]? = some ce ∧ ce.vm = .none ∧ st.vm.findClass E = some ce.cls ∧ st.WarmedH t.vm ∧ st.sameButNew ({ t with vm := st.vm } : State) L mc ms ∧ ∀ z ∈ L, free z.base
def vx_Q (Qc : Array Value → State → Outcome → State → Prop) (XC : String → State → State → Prop) (mc ms : Nat) (free : Addr → Prop) : Array Value → State → Outcome → State → Prop := fun a st o t =>
  (Qc a st o t ∧ ∃ L, FrameEnd st o t L mc ms ∧ ∀ q ∈ L, free q.base) ∨ ∃ q, o = .threw q ∧ vx_T XC st q t mc ms free
/-- a callee that returns or throws -/
def vx_Met (l : Launch) (y : MethodName) (ws : List Cond) (rm : Room) (Pc : Array Value → State → Prop) (Qc : Array Value → State → Outcome → State → Prop) (XC : String → State → State → Prop) (mc ms : Nat) (free : Addr → Prop) : Prop :=
  MetFree l y (headSpec ws rm) Pc (fun _ _ _ _ _ => True) (vx_Q Qc XC mc ms free)
def vx_Post (XC : String → State → State → Prop) (mc ms : Nat) (free : Addr → Prop) : Pt → Array Value → Addr → Pt → Prop := fun A a q B =>
  ∃ (g : JFrame) (mk : MethodId) (t : State) (L : List Loc) (E : String) (ce : Cell), B.U.heap = t.heap ∧ B.U.vm = t.vm ∧ XC E (A.U.calling g mk a) t ∧ t.heap[q]? = some ce ∧ ce.vm = .none ∧ A.U.vm.findClass E = some ce.cls ∧ B.locs = A.locs ++ L ∧ (∀ z ∈ L, free z.base) ∧ B.cells = A.cells + mc ∧ B.slots = A.slots + ms
def vx_Back (l : Launch) (R : Room) (p : Program) (e : Env) (below : List Frame) (s : State) (sargs : Array Value) (y : MethodName) (len W9 : Nat)
    (Pre : Pt → Array Value → Prop) (Post : Pt → Array Value → Option Value → Pt → Prop) (PostX : Pt → Array Value → Addr → Pt → Prop) : Prop :=
  ∀ (m : MethodId) (meth : Method) (c : Code) (A : Pt) (g : JFrame) (ig : Instr) (mk : MethodId) (a : Array Value),
    Stand p l e R s m sargs below meth c A.U A.locs A.cells A.slots → g.method = m → g.locals.size = c.maxLocals → decode c.code g.pc = .ok (ig, len) →
    2 * g.monitorRoom + (g.stack.map fun v => v.category).sum ≤ W9 → A.U.methodNamed? y = some mk → Pre A a →
    (∃ (v : Option Value) (B : Pt), Stand p l e R s m sargs below meth c B.U B.locs B.cells B.slots ∧ Post A a v B ∧
      Steps p.tables e below (doInvoke e (A.U.setTop g) [] mk a).1 (B.U.setTop { g with pc := g.pc + len, stack := v.toList ++ g.stack })) ∨
    (∃ (q : Addr) (B : Pt), Stand p l e R s m sargs below meth c B.U B.locs B.cells B.slots ∧ PostX A a q B ∧
      Steps p.tables e below (doInvoke e (A.U.setTop g) [] mk a).1 ((B.U.setTop g).pushFrame (.throwing q)))
section Payer
variable {l : Launch} {R : Room} {p : Program} {e : Env} {below : List Frame} {s : State} {sargs : Array Value} {y : MethodName} {len W9 : Nat}
theorem vx_back {ws : List Cond} {rm : Room} {Pc : Array Value → State → Prop} {Qc : Array Value → State → Outcome → State → Prop} {XC : String → State → State → Prop} {mc ms : Nat} {free : Addr → Prop} {bytes : ByteArray} {maxL : Nat} {ret : Option FieldType}
    (hM : vx_Met l y ws rm Pc Qc XC mc ms free) (hblind : FrameBlind Pc) (hrc : rm.cells = mc) (hrs : rm.slots = ms)
    (hframes : rm.frames + 1 ≤ R.frames) (hlocals : W9 + (maxL + 11) + rm.locals ≤ R.locals)
    (hws : ∀ w ∈ ws, ∀ a' U, s.WarmedH U.vm → w.before a' U = true) (hcode : Cond.code y bytes maxL ret ∈ ws) (hinit : ∀ a' U, s.WarmedH U.vm → (Cond.initialized y.cls).before a' U = true) :
    vx_Back l R p e below s sargs y len W9 (PreOf R mc ms Pc) (PostOf Qc mc ms free) (vx_Post XC mc ms free) := by
  intro m meth c A g ig mk a X hg hsize hdg hW hn hp
  have h1 : (headSpec ws rm).pre.before a A.U = true := atoms_intro fun w hw => hws w hw _ _ X.warmed
  have h2 : (Cond.code y bytes maxL ret).before a A.U = true := hws _ hcode _ _ X.warmed
  have h3 : (Cond.initialized y.cls).before a A.U = true := hinit _ _ X.warmed
  have h4 : A.cells + (headSpec ws rm).room.cells ≤ R.cells := by rw [show (headSpec ws rm).room.cells = mc from hrc]; exact hp.1
  have h5 : A.slots + (headSpec ws rm).room.slots ≤ R.slots := by rw [show (headSpec ws rm).room.slots = ms from hrs]; exact hp.2.1
  have hPc : Pc a (A.U.calling g mk a) := hblind _ _ _ _ hp.2.2
  obtain ⟨U, Ls, c0, s0⟩ := A
  dsimp only [Pt.U, Pt.locs, Pt.cells, Pt.slots] at h1 h2 h3 h4 h5 X hn hPc ⊢
  obtain ⟨methY, cY, hmY, hcY, -, hlY, -, -, -, -⟩ := Cond.code_spec hn h2
  obtain ⟨kY, hkY, -⟩ := className_of_methodNamed hn
  have hinitY : kY.init = .initialized := Cond.initialized_spec (findClass_of_methodNamed hn) hkY h3
  have h : At U g.method c below := by rw [hg]; exact X.here
  have hlocals9 : W9 + (maxL + 11) + (headSpec ws rm).room.locals ≤ R.locals := hlocals
  have happ : (headSpec ws rm).appliesLoose y e.platform (U.calling g mk a) = true :=
    Spec.appliesLoose_calling (g := g) h hdg hn hkY hinitY
      (X.room_calling (g := g) (R' := (headSpec ws rm).room) hsize hmY hcY hframes (by rw [hlY]; omega) h4 h5) h1
  obtain ⟨mid, hmid⟩ := h.above
  have hfr : (U.setTop g).frames = (.java g :: mid) ++ below := by rw [State.frames_setTop' g h.top, hmid]; rfl
  obtain ⟨o, s₂, hsteps, -, hend, hq⟩ := Steps.callFree hM p X.admits X.cas X.clock (acts := []) hfr happ hPc trivial
  have hq' : vx_Q Qc XC mc ms free a (U.calling g mk a) o s₂ := hq
  rw [State.frames_setTop' g h.top] at hend
  obtain ⟨g₀, hg0⟩ := Option.isSome_iff_exists.mp h.top
  obtain ⟨r, hr⟩ := State.topJava?_eq_some.mp hg0
  have hr' : (({ U with heap := s₂.heap, slotsUsed := s₂.slotsUsed } : State).setVm s₂.vm).frames = .java g₀ :: r := hr
  rcases hq' with ⟨hqc, L, hfe, hL⟩ | ⟨q, rfl, E, ce, L, hx, hce, hcv, hcl, hW₂, hsm, hL⟩
  · obtain ⟨⟨v, rfl⟩, hW₂, e2, q2, q3, q4, q5, q6⟩ := id hfe
    have e3 : s₂ = ({ (U.calling g mk a).setFrames s₂.frames with heap := s₂.heap, slotsUsed := s₂.slotsUsed } : State).setVm s₂.vm := by
      have : s₂ = ({ s₂ with vm := (U.calling g mk a).vm } : State).setVm s₂.vm := rfl
      rw [e2] at this
      exact this
    obtain ⟨c₂, i₂, len₂, hc₂, hd₂, hf₂⟩ := hend
    have hW' : U.WarmedH s₂.vm := hW₂
    have hcc : c₂ = c := by
      have h1 : s₂.code? g.method = U.code? g.method := by
        rw [State.code?_eq, State.code?_eq, hW'.alike.method?]
      exact Option.some.inj (hc₂.symm.trans (h1.trans h.code))
    subst hcc
    have hlen : len₂ = len := by rw [hdg] at hd₂; cases hd₂; rfl
    subst hlen
    have hs₂ : s₂ = (({ U with heap := s₂.heap, slotsUsed := s₂.slotsUsed } : State).setVm s₂.vm).setTop { g with pc := g.pc + len₂, stack := v.toList ++ g.stack } := by
      refine e3.trans ?_
      rw [hf₂, State.calling_eq h.top, State.setFrames_setFrames, State.setTop_of_frames _ hr', hr]
      rfl
    have hsame : U.sameButNew ({ U with heap := s₂.heap, slotsUsed := s₂.slotsUsed } : State) L mc ms := by
      refine ⟨?_, q2, q3, q4, q5, q6⟩
      obtain ⟨t, ht, -⟩ := State.frames_cons hr
      show ({ U with heap := s₂.heap, slotsUsed := s₂.slotsUsed } : State) = { U.setFrames U.frames with heap := s₂.heap, slotsUsed := s₂.slotsUsed }
      rw [State.setFrames_self ht]
    subst hg
    refine Or.inl ⟨v, ⟨(({ U with heap := s₂.heap, slotsUsed := s₂.slotsUsed } : State).setVm s₂.vm), Ls ++ L, c0 + mc, s0 + ms⟩,
      ⟨X.admits, X.cas, X.clock, X.frames, X.room, X.hears, X.method, X.code, (X.here.setHeapUsed s₂.heap s₂.slotsUsed).setVm hW'.alike, X.tail, State.WarmedH.trans X.warmed hW', X.limits, X.bytes, X.same.trans (hsame.setVm s.vm)⟩,
      ⟨g, mk, s₂, L, rfl, rfl, hqc, rfl, hL, rfl, rfl⟩, ?_⟩
    show Steps p.tables e below _ ((({ U with heap := s₂.heap, slotsUsed := s₂.slotsUsed } : State).setVm s₂.vm).setTop { g with pc := g.pc + len₂, stack := v.toList ++ g.stack })
    rw [← hs₂]
    exact hsteps
  · obtain ⟨e2, q2, q3, q4, q5, q6⟩ := id hsm
    have e3 : s₂ = ({ (U.calling g mk a).setFrames s₂.frames with heap := s₂.heap, slotsUsed := s₂.slotsUsed } : State).setVm s₂.vm := by
      have : s₂ = ({ s₂ with vm := (U.calling g mk a).vm } : State).setVm s₂.vm := rfl
      rw [e2] at this
      exact this
    have hf₂ : s₂.frames = .throwing q :: .java g :: U.frames.tail := hend
    have hW' : U.WarmedH s₂.vm := hW₂
    have hs₂ : s₂ = ((({ U with heap := s₂.heap, slotsUsed := s₂.slotsUsed } : State).setVm s₂.vm).setTop g).pushFrame (.throwing q) := by
      refine e3.trans ?_
      rw [hf₂, State.calling_eq h.top, State.setFrames_setFrames, State.pushFrame, State.frames_setTop _ hr', State.setTop_of_frames _ hr', State.setFrames_setFrames, hr]
      rfl
    have hsame : U.sameButNew ({ U with heap := s₂.heap, slotsUsed := s₂.slotsUsed } : State) L mc ms := by
      refine ⟨?_, q2, q3, q4, q5, q6⟩
      obtain ⟨t, ht, -⟩ := State.frames_cons hr
      show ({ U with heap := s₂.heap, slotsUsed := s₂.slotsUsed } : State) = { U.setFrames U.frames with heap := s₂.heap, slotsUsed := s₂.slotsUsed }
      rw [State.setFrames_self ht]
    subst hg
    refine Or.inr ⟨q, ⟨(({ U with heap := s₂.heap, slotsUsed := s₂.slotsUsed } : State).setVm s₂.vm), Ls ++ L, c0 + mc, s0 + ms⟩,
      ⟨X.admits, X.cas, X.clock, X.frames, X.room, X.hears, X.method, X.code, (X.here.setHeapUsed s₂.heap s₂.slotsUsed).setVm hW'.alike, X.tail, State.WarmedH.trans X.warmed hW', X.limits, X.bytes, X.same.trans (hsame.setVm s.vm)⟩,
      ⟨g, mk, s₂, L, E, ce, rfl, rfl, hx, hce, hcv, hcl, rfl, hL, rfl, rfl⟩, ?_⟩
    show Steps p.tables e below _ (((({ U with heap := s₂.heap, slotsUsed := s₂.slotsUsed } : State).setVm s₂.vm).setTop g).pushFrame (.throwing q))
    rw [← hs₂]
    exact hsteps
end Payer
section Calls
variable {p : Program} {l : Launch} {e : Env} {R : Room} {s : State} {m : MethodId} {args : Array Value} {below : List Frame} {meth : Method} {c : Code} {T : State} {locs : List Loc} {cells slots : Nat}
theorem vx_callV (X : Stand p l e R s m args below meth c T locs cells slots) (hexec : p.tables.exec = Jvm.exec) {own C : String} {index : Nat} {y : MethodName} {bytes : ByteArray} {maxL : Nat} {ret : Option FieldType}
    (hown : s.vm.findClass own = some m.cls) (hlink : (Cond.methodLink own index y).before args s = true) (hinst : (Cond.instanceMethod y).before args s = true) (hsel : (Cond.selects C y y).before args s = true)
    (hcode : (Cond.code y bytes maxL ret).before args s = true) (hy : y.cls ≠ "java/lang/invoke/MethodHandle" ∧ y.cls ≠ "java/lang/invoke/VarHandle")
    {W9 : Nat} {Pre : Pt → Array Value → Prop} {Post : Pt → Array Value → Option Value → Pt → Prop} {PostX : Pt → Array Value → Addr → Pt → Prop} (hK : vx_Back l R p e below s args y 3 W9 Pre Post PostX)
    {b : Addr} {cellB : Cell} (hcell : T.heap[b]? = some cellB) (hobj : cellB.vm.isStatics = false) (hcls : s.vm.findClass C = some cellB.cls)
    {g : JFrame} (hg : g.method = m) (hsize : g.locals.size = c.maxLocals) {argsL rest : List Value} (hlen : ∀ sig, parseMethodDescriptor y.desc = some sig → argsL.length = sig.parameters.length)
    (hstack : g.stack = argsL.reverse ++ .ref b :: rest) (hW : 2 * g.monitorRoom + (rest.map fun v => v.category).sum ≤ W9) (hdg : decode c.code g.pc = .ok (.invokevirtual index, 3))
    (hpre : ∀ vm₁, s.WarmedH vm₁ → Pre ⟨T.setVm vm₁, locs, cells, slots⟩ (Value.ref b :: argsL).toArray) :
    (∃ (v : Option Value) (vm₁ : Vm) (B : Pt), s.WarmedH vm₁ ∧ Stand p l e R s m args below meth c B.U B.locs B.cells B.slots ∧ Post ⟨T.setVm vm₁, locs, cells, slots⟩ (Value.ref b :: argsL).toArray v B ∧
      ∀ target, Steps p.tables e below (B.U.setTop { g with pc := g.pc + 3, stack := v.toList ++ rest }) target → Steps p.tables e below (T.setTop g) target) ∨
    (∃ (q : Addr) (vm₁ : Vm) (B : Pt), s.WarmedH vm₁ ∧ Stand p l e R s m args below meth c B.U B.locs B.cells B.slots ∧ PostX ⟨T.setVm vm₁, locs, cells, slots⟩ (Value.ref b :: argsL).toArray q B ∧
      Steps p.tables e below (T.setTop g) ((B.U.setTop { g with stack := rest }).pushFrame (.throwing q))) := by
  obtain ⟨mk, methM, hnamed, hmethM, hstM, habM⟩ := Cond.instanceMethod_spec hinst
  obtain ⟨methM', cM, hmethM', -, -, -, -, -, -, hsigM⟩ := Cond.code_spec hnamed hcode
  cases hmethM.symm.trans hmethM'
  obtain ⟨c2, r2, m2, q1, q2, q3, q4, kP, hkP, hkPi⟩ := Cond.selects_spec hsel
  cases hcls.symm.trans q1
  cases (State.methodFound?_of_named hnamed hy).symm.trans q2
  cases hnamed.symm.trans q3
  have hselP : selectMethod e.platform s.vm cellB.cls mk = .method mk := by rw [Launch.admits_selectMethod X.admits]; exact q4
  obtain ⟨vm₁, X₁, hstep₁⟩ := X.invokevirtual hexec hown hlink hnamed hmethM hstM hkP hkPi hy (a := b) (cell := cellB) hcell
    (fun z h => by rw [h] at hobj; cases hobj) hselP hmethM habM hkP hkPi (g := g) hg (argsL := argsL) (rest := rest) (hlen _ hsigM) hstack hdg
  rcases hK m meth c ⟨T.setVm vm₁, locs, cells, slots⟩ { g with stack := rest } (.invokevirtual index) mk (Value.ref b :: argsL).toArray X₁ hg hsize hdg hW (X₁.named hnamed) (hpre vm₁ X₁.warmed) with ⟨v, B, X', hpost, hsteps⟩ | ⟨q, B, X', hpost, hsteps⟩
  · exact Or.inl ⟨v, vm₁, B, X₁.warmed, X', hpost, fun target h => hstep₁ _ fun acts => by rw [doInvoke_state]; exact hsteps.trans h⟩
  · exact Or.inr ⟨q, vm₁, B, X₁.warmed, X', hpost, hstep₁ _ fun acts => by rw [doInvoke_state]; exact hsteps⟩
theorem vx_callS (X : Stand p l e R s m args below meth c T locs cells slots) (hexec : p.tables.exec = Jvm.exec) {own : String} {index : Nat} {y : MethodName} {bytes : ByteArray} {maxL : Nat} {ret : Option FieldType}
    (hown : s.vm.findClass own = some m.cls) (hlink : (Cond.methodLink own index y).before args s = true) (hstat : (Cond.static y).before args s = true) (hinit : (Cond.initialized y.cls).before args s = true)
    (hcode : (Cond.code y bytes maxL ret).before args s = true) (hy : y.cls ≠ "java/lang/invoke/MethodHandle" ∧ y.cls ≠ "java/lang/invoke/VarHandle")
    {W9 : Nat} {Pre : Pt → Array Value → Prop} {Post : Pt → Array Value → Option Value → Pt → Prop} {PostX : Pt → Array Value → Addr → Pt → Prop} (hK : vx_Back l R p e below s args y 3 W9 Pre Post PostX)
    {g : JFrame} (hg : g.method = m) (hsize : g.locals.size = c.maxLocals) {argsL rest : List Value} (hlen : ∀ sig, parseMethodDescriptor y.desc = some sig → argsL.length = sig.parameters.length)
    (hstack : g.stack = argsL.reverse ++ rest) (hW : 2 * g.monitorRoom + (rest.map fun v => v.category).sum ≤ W9) (hdg : decode c.code g.pc = .ok (.invokestatic index, 3))
    (hpre : ∀ vm₁, s.WarmedH vm₁ → Pre ⟨T.setVm vm₁, locs, cells, slots⟩ argsL.toArray) :
    (∃ (v : Option Value) (vm₁ : Vm) (B : Pt), s.WarmedH vm₁ ∧ Stand p l e R s m args below meth c B.U B.locs B.cells B.slots ∧ Post ⟨T.setVm vm₁, locs, cells, slots⟩ argsL.toArray v B ∧
      ∀ target, Steps p.tables e below (B.U.setTop { g with pc := g.pc + 3, stack := v.toList ++ rest }) target → Steps p.tables e below (T.setTop g) target) ∨
    (∃ (q : Addr) (vm₁ : Vm) (B : Pt), s.WarmedH vm₁ ∧ Stand p l e R s m args below meth c B.U B.locs B.cells B.slots ∧ PostX ⟨T.setVm vm₁, locs, cells, slots⟩ argsL.toArray q B ∧
      Steps p.tables e below (T.setTop g) ((B.U.setTop { g with stack := rest }).pushFrame (.throwing q))) := by
  obtain ⟨mk, hnamed⟩ := Cond.code_named hcode
  obtain ⟨methM, cM, hmethM, -, -, -, -, -, -, hsigM⟩ := Cond.code_spec hnamed hcode
  have hstatic : methM.isStatic = true := Cond.static_spec hnamed hmethM hstat
  obtain ⟨kP, hkP, -⟩ := className_of_methodNamed hnamed
  have hinitP : kP.init = .initialized := Cond.initialized_spec (findClass_of_methodNamed hnamed) hkP hinit
  obtain ⟨vm₁, X₁, hstep₁⟩ := X.invokestatic hexec hown hlink hnamed hmethM hstatic hkP hinitP hy (g := g) hg (argsL := argsL) (rest := rest) (hlen _ hsigM) hstack hdg
  rcases hK m meth c ⟨T.setVm vm₁, locs, cells, slots⟩ { g with stack := rest } (.invokestatic index) mk argsL.toArray X₁ hg hsize hdg hW (X₁.named hnamed) (hpre vm₁ X₁.warmed) with ⟨v, B, X', hpost, hsteps⟩ | ⟨q, B, X', hpost, hsteps⟩
  · exact Or.inl ⟨v, vm₁, B, X₁.warmed, X', hpost, fun target h => hstep₁ _ fun acts => by rw [doInvoke_state]; exact hsteps.trans h⟩
  · exact Or.inr ⟨q, vm₁, B, X₁.warmed, X', hpost, hstep₁ _ fun acts => by rw [doInvoke_state]; exact hsteps⟩
end Calls
theorem vx_cls {s : State} {T : State} {vm₁ : Vm} {E : String} {k : ClassId} (hW : s.WarmedH vm₁) (h : (T.setVm vm₁).vm.findClass E = some k) : s.vm.findClass E = some k := by
  have h1 : vm₁.findClass E = some k := h
  rw [hW.alike.findClass] at h1
  exact h1
/-- the method's frame g, with q thrown over it -/
def vx_W (p : Program) (l : Launch) (e : Env) (R : Room) (s : State) (m : MethodId) (args : Array Value) (below : List Frame) (meth : Method) (c : Code) (H : Heap) (locs : List Loc) (cells slots : Nat) (Q : State → Prop) (g : JFrame) (q : Addr) : Prop :=
  ∀ T : State, T.heap = H → Stand p l e R s m args below meth c T locs cells slots → ∃ t, Steps p.tables e below ((T.setTop g).pushFrame (.throwing q)) t ∧ Q t
def vx_Run (p : Program) (l : Launch) (e : Env) (R : Room) (s : State) (m : MethodId) (args : Array Value) (below : List Frame) (meth : Method) (c : Code) (H : Heap) (locs : List Loc) (cells slots mc ms : Nat) (g : JFrame) (rest : List Value) (Qa : State → Outcome → State → Prop) (XC : String → State → State → Prop) (free : Addr → Prop) : Prop :=
  ∀ T : State, T.heap = H → Stand p l e R s m args below meth c T locs cells slots →
    (∃ (v : Option Value) (st₀ t T' : State) (L : List Loc), st₀.heap = H ∧ Stand p l e R s m args below meth c T' (locs ++ L) (cells + mc) (slots + ms) ∧ (∀ q ∈ L, free q.base) ∧ T'.heap = t.heap ∧ T'.vm = t.vm ∧ Qa st₀ (.returned v) t ∧
      Goes p e below T g T' { g with pc := g.pc + 3, stack := v.toList ++ rest }) ∨
    (∃ (q : Addr) (st₀ t T' : State) (L : List Loc) (E : String) (ce : Cell), st₀.heap = H ∧ Stand p l e R s m args below meth c T' (locs ++ L) (cells + mc) (slots + ms) ∧ (∀ z ∈ L, free z.base) ∧ T'.heap = t.heap ∧ T'.vm = t.vm ∧ XC E st₀ t ∧ t.heap[q]? = some ce ∧ ce.vm = .none ∧ s.vm.findClass E = some ce.cls ∧
      Steps p.tables e below (T.setTop g) ((T'.setTop { g with stack := rest }).pushFrame (.throwing q)))
def vx_X {S : Type} (px : S → Prop) (B : String → S → State → Prop) (A : Nat → Prop) : String → State → State → Prop := fun E st t => ∃ u : S, px u ∧ B E u t ∧ va_F A st t
section Runs
variable {p : Program} {l : Launch} {e : Env} {R : Room} {s : State} {m : MethodId} {args : Array Value} {below : List Frame} {meth : Method} {c : Code} {H : Heap} {locs : List Loc} {cells slots : Nat}
variable {y : MethodName} {bytes cc : ByteArray} {maxL nL mc ms n index : Nat} {ret : Option FieldType} {ws : List Cond} {rm : Room} {Pc : Array Value → State → Prop} {Qc : Array Value → State → Outcome → State → Prop} {XC : String → State → State → Prop} {free : Addr → Prop} {Ts : List Cond} {own C : String} {b : Addr} {As rest : List Value} {g : JFrame}
theorem vx_callBack (cb : CallB R s args own index y bytes maxL ret ws rm mc ms n) (hM : vx_Met l y ws rm Pc Qc XC mc ms free) (hbl : FrameBlind Pc) : vx_Back l R p e below s args y 3 8 (PreOf R mc ms Pc) (PostOf Qc mc ms free) (vx_Post XC mc ms free) := by
  obtain ⟨hrc, hrs, hfr, hlo, hws, hcw, -, hini, -⟩ := cb
  exact vx_back (bytes := bytes) (maxL := maxL) (ret := ret) hM hbl hrc hrs hfr hlo hws hcw (fun a' U hW => word_at hW (Or.inl (by first | rfl | simp [Cond.onTables, Cond.keeps, Cond.steady])) hini)
theorem vx_runV (S : CallFix p m c cc nL s args Ts own) (hM : vx_Met l y ws rm Pc Qc XC mc ms free) (cw : CallW R s args own C index y bytes maxL ret ws rm mc ms n) (hp : PreV s H C b Pc As)
    (hg : g.method = m) (hn : As.length = n) (hsize : g.locals.size = nL) (hstack : g.stack = As.reverse ++ .ref b :: rest) (hW : 2 * g.monitorRoom + (rest.map fun v => v.category).sum ≤ 8) (hdg : decode cc g.pc = .ok (.invokevirtual index, 3)) (hf : cells + mc ≤ R.cells ∧ slots + ms ≤ R.slots) :
    vx_Run p l e R s m args below meth c H locs cells slots mc ms g rest (Qc (Value.ref b :: As).toArray) XC free := by
  have hK : vx_Back l R p e below s args y 3 8 (PreOf R mc ms Pc) (PostOf Qc mc ms free) (vx_Post XC mc ms free) := vx_callBack cw.1 hM hp.1
  obtain ⟨⟨-, -, -, -, -, -, hcode, -, hy, hlen, hl⟩, hin, hse⟩ := cw
  obtain ⟨hx, hb, hml, ho, -⟩ := S
  obtain ⟨-, ⟨cellB, hcB, hoB, hclB⟩, hPc⟩ := hp
  intro T hT X
  rcases vx_callV X hx (C := C) (bytes := bytes) (maxL := maxL) (ret := ret) ho hl hin hse hcode hy hK (by rw [hT]; exact hcB) hoB hclB hg (hsize.trans hml.symm) (argsL := As) (rest := rest) (fun sig h => hn.trans (hlen sig h)) hstack hW (by rw [hb]; exact hdg)
    (fun vm₁ hW₁ => ⟨hf.1, hf.2, hPc (T.setVm vm₁) hT hW₁⟩) with ⟨v, vm₁, ⟨U', l2, c2, s2⟩, hW₁, X', ⟨g', mk, t, L, e1, e2, hq, h1, hL, h2, h3⟩, st⟩ | ⟨q, vm₁, ⟨U', l2, c2, s2⟩, hW₁, X', ⟨g', mk, t, L, E, ce, e1, e2, hq, hce, hcv, hcl, h1, hL, h2, h3⟩, st⟩
  · dsimp only [Pt.U, Pt.locs, Pt.cells, Pt.slots] at X' e1 e2 h1 h2 h3 st
    subst h1; subst h2; subst h3
    exact Or.inl ⟨v, (T.setVm vm₁).calling g' mk (Value.ref b :: As).toArray, t, U', L, hT, X', hL, e1, e2, hq, st⟩
  · dsimp only [Pt.U, Pt.locs, Pt.cells, Pt.slots] at X' e1 e2 h1 h2 h3 st hcl
    subst h1; subst h2; subst h3
    exact Or.inr ⟨q, (T.setVm vm₁).calling g' mk (Value.ref b :: As).toArray, t, U', L, E, ce, hT, X', hL, e1, e2, hq, hce, hcv, vx_cls hW₁ hcl, st⟩
theorem vx_runS (S : CallFix p m c cc nL s args Ts own) (hM : vx_Met l y ws rm Pc Qc XC mc ms free) (cw : CallB R s args own index y bytes maxL ret ws rm mc ms n ∧ (Cond.static y).before args s = true) (hp : PreS s H Pc As)
    (hg : g.method = m) (hn : As.length = n) (hsize : g.locals.size = nL) (hstack : g.stack = As.reverse ++ rest) (hW : 2 * g.monitorRoom + (rest.map fun v => v.category).sum ≤ 8) (hdg : decode cc g.pc = .ok (.invokestatic index, 3)) (hf : cells + mc ≤ R.cells ∧ slots + ms ≤ R.slots) :
    vx_Run p l e R s m args below meth c H locs cells slots mc ms g rest (Qc As.toArray) XC free := by
  have hK : vx_Back l R p e below s args y 3 8 (PreOf R mc ms Pc) (PostOf Qc mc ms free) (vx_Post XC mc ms free) := vx_callBack cw.1 hM hp.1
  obtain ⟨⟨-, -, -, -, -, -, hcode, hini, hy, hlen, hl⟩, hstt⟩ := cw
  obtain ⟨hx, hb, hml, ho, -⟩ := S
  intro T hT X
  rcases vx_callS X hx (bytes := bytes) (maxL := maxL) (ret := ret) ho hl hstt hini hcode hy hK hg (hsize.trans hml.symm) (argsL := As) (rest := rest) (fun sig h => hn.trans (hlen sig h)) hstack hW (by rw [hb]; exact hdg)
    (fun vm₁ hW₁ => ⟨hf.1, hf.2, hp.2 (T.setVm vm₁) hT hW₁⟩) with ⟨v, vm₁, ⟨U', l2, c2, s2⟩, hW₁, X', ⟨g', mk, t, L, e1, e2, hq, h1, hL, h2, h3⟩, st⟩ | ⟨q, vm₁, ⟨U', l2, c2, s2⟩, hW₁, X', ⟨g', mk, t, L, E, ce, e1, e2, hq, hce, hcv, hcl, h1, hL, h2, h3⟩, st⟩
  · dsimp only [Pt.U, Pt.locs, Pt.cells, Pt.slots] at X' e1 e2 h1 h2 h3 st
    subst h1; subst h2; subst h3
    exact Or.inl ⟨v, (T.setVm vm₁).calling g' mk As.toArray, t, U', L, hT, X', hL, e1, e2, hq, st⟩
  · dsimp only [Pt.U, Pt.locs, Pt.cells, Pt.slots] at X' e1 e2 h1 h2 h3 st hcl
    subst h1; subst h2; subst h3
    exact Or.inr ⟨q, (T.setVm vm₁).calling g' mk As.toArray, t, U', L, E, ce, hT, X', hL, e1, e2, hq, hce, hcv, vx_cls hW₁ hcl, st⟩
end Runs
section Rows
variable {p : Program} {l : Launch} {e : Env} {R : Room} {s : State} {m : MethodId} {args : Array Value} {below : List Frame} {meth : Method} {c : Code} {H : Heap} {locs : List Loc} {cells slots : Nat} {Q : State → Prop}
variable {mc ms : Nat} {free : Addr → Prop} {A0 A1 : Nat → Prop} {H0 : Heap} {a : Array Value} {pc : Nat} {ls : Array Slot} {st0 rest : List Value}
theorem vx_keep {st₀ t T' : State} {L : List Loc} (h0 : st₀.heap = H) (e1 : T'.heap = t.heap) (hS : va_S A0 H0 H locs) (hA : ∀ q, q < H.size → A1 q → A0 q) (hf : ∀ q, free q → A0 q) (hL : ∀ q ∈ L, free q.base) (hF : va_F A1 st₀ t) :
    H.size ≤ T'.heap.size ∧ (∀ q : Nat, q < H.size → ¬ A1 q → T'.heap[q]? = H[q]?) ∧ va_S A0 H0 T'.heap (locs ++ L) := by
  obtain ⟨hz, hk⟩ := hF
  rw [h0] at hz hk
  exact ⟨by rw [e1]; exact hz, fun q h1 h2 => by rw [e1]; exact hk q h1 h2,
    ⟨Nat.le_trans hS.1 (by rw [e1]; exact hz), fun q h1 h2 => by rw [e1, hk q (Nat.lt_of_lt_of_le h1 hS.1) (fun z => h2 (hA q (Nat.lt_of_lt_of_le h1 hS.1) z))]; exact hS.2.1 q h1 h2, fun q hq => by
      rcases List.mem_append.mp hq with h | h
      · exact hS.2.2 q h
      · exact hf _ (hL q h)⟩⟩
theorem vx_calli {S SX : Type} {post : Int32 → S → Prop} {px : SX → Prop} {B : S → State → Prop} {BX : String → SX → State → Prop} {AX : Nat → Prop} (hr : vx_Run p l e R s m args below meth c H locs cells slots mc ms (F0 m pc ls st0) rest (va_Qi post B A1 a) (vx_X px BX AX) free) (hS : va_S A0 H0 H locs) (hA : ∀ q, q < H.size → A1 q → A0 q) (hf : ∀ q, free q → A0 q) (hAX : ∀ q, q < H.size → AX q → A0 q)
    (kx : ∀ (E : String) (ce : Cell) (q9 : Addr) (u : SX) (t : State) (H1 : Heap) (locs1 : List Loc), t.heap = H1 → s.vm.Alike t.vm → px u → BX E u t → H.size ≤ H1.size → (∀ q : Nat, q < H.size → ¬ AX q → H1[q]? = H[q]?) → va_S A0 H0 H1 locs1 → H1[q9]? = some ce → ce.vm = .none → s.vm.findClass E = some ce.cls → vx_W p l e R s m args below meth c H1 locs1 (cells + mc) (slots + ms) Q (F0 m pc ls rest) q9)
    (kk : ∀ (r : Int32) (u : S) (t : State) (H1 : Heap) (locs1 : List Loc), t.heap = H1 → s.vm.Alike t.vm → post r u → B u t → H.size ≤ H1.size → (∀ q : Nat, q < H.size → ¬ A1 q → H1[q]? = H[q]?) → va_S A0 H0 H1 locs1 → W p l e R s m args below meth c H1 locs1 (cells + mc) (slots + ms) Q (F0 m (pc + 3) ls (.int r :: rest))) : W p l e R s m args below meth c H locs cells slots Q (F0 m pc ls st0) := by
  intro T hT X
  rcases hr T hT X with ⟨v, st₀, t, T', L, h0, X', hL, e1, e2, ⟨⟨r, u, hv, hp, hb⟩, hF⟩, st⟩ | ⟨q, st₀, t, T', L, E, ce, h0, X', hL, e1, e2, ⟨u, hp, hb, hF⟩, hce, hcv, hcl, st⟩
  · cases hv
    obtain ⟨k1, k2, k3⟩ := vx_keep h0 e1 hS hA hf hL hF
    obtain ⟨t2, a1, b1⟩ := kk r u t T'.heap (locs ++ L) e1.symm (by rw [← e2]; exact X'.warmed.alike) hp hb k1 k2 k3 T' rfl X'
    exact ⟨t2, st t2 a1, b1⟩
  · obtain ⟨k1, k2, k3⟩ := vx_keep h0 e1 hS hAX hf hL hF
    obtain ⟨t2, a1, b1⟩ := kx E ce q u t T'.heap (locs ++ L) e1.symm (by rw [← e2]; exact X'.warmed.alike) hp hb k1 k2 k3 (by rw [e1]; exact hce) hcv hcl T' rfl X'
    exact ⟨t2, st.trans a1, b1⟩
theorem vx_calll {S SX : Type} {post : Int64 → S → Prop} {px : SX → Prop} {B : S → State → Prop} {BX : String → SX → State → Prop} {AX : Nat → Prop} (hr : vx_Run p l e R s m args below meth c H locs cells slots mc ms (F0 m pc ls st0) rest (va_Ql post B A1 a) (vx_X px BX AX) free) (hS : va_S A0 H0 H locs) (hA : ∀ q, q < H.size → A1 q → A0 q) (hf : ∀ q, free q → A0 q) (hAX : ∀ q, q < H.size → AX q → A0 q)
    (kx : ∀ (E : String) (ce : Cell) (q9 : Addr) (u : SX) (t : State) (H1 : Heap) (locs1 : List Loc), t.heap = H1 → s.vm.Alike t.vm → px u → BX E u t → H.size ≤ H1.size → (∀ q : Nat, q < H.size → ¬ AX q → H1[q]? = H[q]?) → va_S A0 H0 H1 locs1 → H1[q9]? = some ce → ce.vm = .none → s.vm.findClass E = some ce.cls → vx_W p l e R s m args below meth c H1 locs1 (cells + mc) (slots + ms) Q (F0 m pc ls rest) q9)
    (kk : ∀ (r : Int64) (u : S) (t : State) (H1 : Heap) (locs1 : List Loc), t.heap = H1 → s.vm.Alike t.vm → post r u → B u t → H.size ≤ H1.size → (∀ q : Nat, q < H.size → ¬ A1 q → H1[q]? = H[q]?) → va_S A0 H0 H1 locs1 → W p l e R s m args below meth c H1 locs1 (cells + mc) (slots + ms) Q (F0 m (pc + 3) ls (.long r :: rest))) : W p l e R s m args below meth c H locs cells slots Q (F0 m pc ls st0) := by
  intro T hT X
  rcases hr T hT X with ⟨v, st₀, t, T', L, h0, X', hL, e1, e2, ⟨⟨r, u, hv, hp, hb⟩, hF⟩, st⟩ | ⟨q, st₀, t, T', L, E, ce, h0, X', hL, e1, e2, ⟨u, hp, hb, hF⟩, hce, hcv, hcl, st⟩
  · cases hv
    obtain ⟨k1, k2, k3⟩ := vx_keep h0 e1 hS hA hf hL hF
    obtain ⟨t2, a1, b1⟩ := kk r u t T'.heap (locs ++ L) e1.symm (by rw [← e2]; exact X'.warmed.alike) hp hb k1 k2 k3 T' rfl X'
    exact ⟨t2, st t2 a1, b1⟩
  · obtain ⟨k1, k2, k3⟩ := vx_keep h0 e1 hS hAX hf hL hF
    obtain ⟨t2, a1, b1⟩ := kx E ce q u t T'.heap (locs ++ L) e1.symm (by rw [← e2]; exact X'.warmed.alike) hp hb k1 k2 k3 (by rw [e1]; exact hce) hcv hcl T' rfl X'
    exact ⟨t2, st.trans a1, b1⟩
theorem vx_callf {S SX : Type} {post : UInt32 → S → Prop} {px : SX → Prop} {B : S → State → Prop} {BX : String → SX → State → Prop} {AX : Nat → Prop} (hr : vx_Run p l e R s m args below meth c H locs cells slots mc ms (F0 m pc ls st0) rest (va_Qf post B A1 a) (vx_X px BX AX) free) (hS : va_S A0 H0 H locs) (hA : ∀ q, q < H.size → A1 q → A0 q) (hf : ∀ q, free q → A0 q) (hAX : ∀ q, q < H.size → AX q → A0 q)
    (kx : ∀ (E : String) (ce : Cell) (q9 : Addr) (u : SX) (t : State) (H1 : Heap) (locs1 : List Loc), t.heap = H1 → s.vm.Alike t.vm → px u → BX E u t → H.size ≤ H1.size → (∀ q : Nat, q < H.size → ¬ AX q → H1[q]? = H[q]?) → va_S A0 H0 H1 locs1 → H1[q9]? = some ce → ce.vm = .none → s.vm.findClass E = some ce.cls → vx_W p l e R s m args below meth c H1 locs1 (cells + mc) (slots + ms) Q (F0 m pc ls rest) q9)
    (kk : ∀ (r : UInt32) (u : S) (t : State) (H1 : Heap) (locs1 : List Loc), t.heap = H1 → s.vm.Alike t.vm → post r u → B u t → H.size ≤ H1.size → (∀ q : Nat, q < H.size → ¬ A1 q → H1[q]? = H[q]?) → va_S A0 H0 H1 locs1 → W p l e R s m args below meth c H1 locs1 (cells + mc) (slots + ms) Q (F0 m (pc + 3) ls (.float r :: rest))) : W p l e R s m args below meth c H locs cells slots Q (F0 m pc ls st0) := by
  intro T hT X
  rcases hr T hT X with ⟨v, st₀, t, T', L, h0, X', hL, e1, e2, ⟨⟨r, u, hv, hp, hb⟩, hF⟩, st⟩ | ⟨q, st₀, t, T', L, E, ce, h0, X', hL, e1, e2, ⟨u, hp, hb, hF⟩, hce, hcv, hcl, st⟩
  · cases hv
    obtain ⟨k1, k2, k3⟩ := vx_keep h0 e1 hS hA hf hL hF
    obtain ⟨t2, a1, b1⟩ := kk r u t T'.heap (locs ++ L) e1.symm (by rw [← e2]; exact X'.warmed.alike) hp hb k1 k2 k3 T' rfl X'
    exact ⟨t2, st t2 a1, b1⟩
  · obtain ⟨k1, k2, k3⟩ := vx_keep h0 e1 hS hAX hf hL hF
    obtain ⟨t2, a1, b1⟩ := kx E ce q u t T'.heap (locs ++ L) e1.symm (by rw [← e2]; exact X'.warmed.alike) hp hb k1 k2 k3 (by rw [e1]; exact hce) hcv hcl T' rfl X'
    exact ⟨t2, st.trans a1, b1⟩
theorem vx_calld {S SX : Type} {post : UInt64 → S → Prop} {px : SX → Prop} {B : S → State → Prop} {BX : String → SX → State → Prop} {AX : Nat → Prop} (hr : vx_Run p l e R s m args below meth c H locs cells slots mc ms (F0 m pc ls st0) rest (va_Qd post B A1 a) (vx_X px BX AX) free) (hS : va_S A0 H0 H locs) (hA : ∀ q, q < H.size → A1 q → A0 q) (hf : ∀ q, free q → A0 q) (hAX : ∀ q, q < H.size → AX q → A0 q)
    (kx : ∀ (E : String) (ce : Cell) (q9 : Addr) (u : SX) (t : State) (H1 : Heap) (locs1 : List Loc), t.heap = H1 → s.vm.Alike t.vm → px u → BX E u t → H.size ≤ H1.size → (∀ q : Nat, q < H.size → ¬ AX q → H1[q]? = H[q]?) → va_S A0 H0 H1 locs1 → H1[q9]? = some ce → ce.vm = .none → s.vm.findClass E = some ce.cls → vx_W p l e R s m args below meth c H1 locs1 (cells + mc) (slots + ms) Q (F0 m pc ls rest) q9)
    (kk : ∀ (r : UInt64) (u : S) (t : State) (H1 : Heap) (locs1 : List Loc), t.heap = H1 → s.vm.Alike t.vm → post r u → B u t → H.size ≤ H1.size → (∀ q : Nat, q < H.size → ¬ A1 q → H1[q]? = H[q]?) → va_S A0 H0 H1 locs1 → W p l e R s m args below meth c H1 locs1 (cells + mc) (slots + ms) Q (F0 m (pc + 3) ls (.double r :: rest))) : W p l e R s m args below meth c H locs cells slots Q (F0 m pc ls st0) := by
  intro T hT X
  rcases hr T hT X with ⟨v, st₀, t, T', L, h0, X', hL, e1, e2, ⟨⟨r, u, hv, hp, hb⟩, hF⟩, st⟩ | ⟨q, st₀, t, T', L, E, ce, h0, X', hL, e1, e2, ⟨u, hp, hb, hF⟩, hce, hcv, hcl, st⟩
  · cases hv
    obtain ⟨k1, k2, k3⟩ := vx_keep h0 e1 hS hA hf hL hF
    obtain ⟨t2, a1, b1⟩ := kk r u t T'.heap (locs ++ L) e1.symm (by rw [← e2]; exact X'.warmed.alike) hp hb k1 k2 k3 T' rfl X'
    exact ⟨t2, st t2 a1, b1⟩
  · obtain ⟨k1, k2, k3⟩ := vx_keep h0 e1 hS hAX hf hL hF
    obtain ⟨t2, a1, b1⟩ := kx E ce q u t T'.heap (locs ++ L) e1.symm (by rw [← e2]; exact X'.warmed.alike) hp hb k1 k2 k3 (by rw [e1]; exact hce) hcv hcl T' rfl X'
    exact ⟨t2, st.trans a1, b1⟩
theorem vx_callv {S SX : Type} {post : S → Prop} {px : SX → Prop} {B : S → State → Prop} {BX : String → SX → State → Prop} {AX : Nat → Prop} (hr : vx_Run p l e R s m args below meth c H locs cells slots mc ms (F0 m pc ls st0) rest (va_Qv post B A1 a) (vx_X px BX AX) free) (hS : va_S A0 H0 H locs) (hA : ∀ q, q < H.size → A1 q → A0 q) (hf : ∀ q, free q → A0 q) (hAX : ∀ q, q < H.size → AX q → A0 q)
    (kx : ∀ (E : String) (ce : Cell) (q9 : Addr) (u : SX) (t : State) (H1 : Heap) (locs1 : List Loc), t.heap = H1 → s.vm.Alike t.vm → px u → BX E u t → H.size ≤ H1.size → (∀ q : Nat, q < H.size → ¬ AX q → H1[q]? = H[q]?) → va_S A0 H0 H1 locs1 → H1[q9]? = some ce → ce.vm = .none → s.vm.findClass E = some ce.cls → vx_W p l e R s m args below meth c H1 locs1 (cells + mc) (slots + ms) Q (F0 m pc ls rest) q9)
    (kk : ∀ (u : S) (t : State) (H1 : Heap) (locs1 : List Loc), t.heap = H1 → s.vm.Alike t.vm → post u → B u t → H.size ≤ H1.size → (∀ q : Nat, q < H.size → ¬ A1 q → H1[q]? = H[q]?) → va_S A0 H0 H1 locs1 → W p l e R s m args below meth c H1 locs1 (cells + mc) (slots + ms) Q (F0 m (pc + 3) ls (rest))) : W p l e R s m args below meth c H locs cells slots Q (F0 m pc ls st0) := by
  intro T hT X
  rcases hr T hT X with ⟨v, st₀, t, T', L, h0, X', hL, e1, e2, ⟨⟨u, hv, hp, hb⟩, hF⟩, st⟩ | ⟨q, st₀, t, T', L, E, ce, h0, X', hL, e1, e2, ⟨u, hp, hb, hF⟩, hce, hcv, hcl, st⟩
  · cases hv
    obtain ⟨k1, k2, k3⟩ := vx_keep h0 e1 hS hA hf hL hF
    obtain ⟨t2, a1, b1⟩ := kk u t T'.heap (locs ++ L) e1.symm (by rw [← e2]; exact X'.warmed.alike) hp hb k1 k2 k3 T' rfl X'
    exact ⟨t2, st t2 a1, b1⟩
  · obtain ⟨k1, k2, k3⟩ := vx_keep h0 e1 hS hAX hf hL hF
    obtain ⟨t2, a1, b1⟩ := kx E ce q u t T'.heap (locs ++ L) e1.symm (by rw [← e2]; exact X'.warmed.alike) hp hb k1 k2 k3 (by rw [e1]; exact hce) hcv hcl T' rfl X'
    exact ⟨t2, st.trans a1, b1⟩
/-- caught by the row x of this method's table; the rows ahead don't take it -/
theorem vx_catch {own name : String} {E : String} {ce : Cell} {q : Addr} (hown : s.vm.findClass own = some m.cls) (pre : List ExceptionTableEntry) (x : ExceptionTableEntry) (suf : List ExceptionTableEntry) (hsplit : c.exceptionTable.toList = pre ++ x :: suf)
    (hpass : ∀ z ∈ pre, covers z pc = false ∨ (z.catchType ≠ 0 ∧ ∃ nm : String, (Cond.classLink own z.catchType nm).before args s = true ∧ va_Nc E nm s)) (hx : covers x pc = true) (h0 : x.catchType ≠ 0)
    (hlink : (Cond.classLink own x.catchType name).before args s = true) (hcast : (Cond.castable E name).before args s = true) (hcell : H[q]? = some ce) (hv : ce.vm = .none) (hcl : s.vm.findClass E = some ce.cls)
    (kk : W p l e R s m args below meth c H locs cells slots Q (F0 m x.handlerPc ls [.ref q])) : vx_W p l e R s m args below meth c H locs cells slots Q (F0 m pc ls rest) q := by
  intro T hT X
  have hpl : e.platform.magicAccessors = ({} : Platform).magicAccessors := by rw [X.admits.platform]
  obtain ⟨c3, c4, hc3, hc4, hasg⟩ := Cond.castable_spec hcast
  cases Option.some.inj (hc3.symm.trans hcl)
  obtain ⟨c5, hc5, hcl5⟩ := Cond.classLink_spec hown hlink e.platform hpl
  cases Option.some.inj (hc4.symm.trans hc5)
  obtain ⟨vm', X', st⟩ := X.thenCaughtThrough q (g := F0 m pc ls rest) rfl (Steps.refl _) (by rw [hT]; exact hcell) (by rw [hv]; rfl) (by obtain ⟨k9, h9, -⟩ := Vm.findClass_spec hcl; exact ⟨k9, h9⟩) pre x suf hsplit
    (fun z hz => by
      rcases hpass z hz with h | ⟨hz0, nm, hl1, hn1⟩
      · exact Or.inl h
      · obtain ⟨c6, hc6, hcl6⟩ := Cond.classLink_spec hown hl1 e.platform hpl
        obtain ⟨a8, b8, h1, h2, h3⟩ := hn1
        cases Option.some.inj (h1.symm.trans hcl)
        cases Option.some.inj (h2.symm.trans hc6)
        exact Or.inr ⟨hz0, _, hcl6, h3⟩) hx (Or.inr ⟨h0, c4, hcl5, hasg⟩)
  obtain ⟨t, a1, b1⟩ := kk (T.setVm vm') hT X'
  exact ⟨t, st.trans a1, b1⟩
end Rows
section Ends
variable {p : Program} {l : Launch} {e : Env} {R : Room} {s : State} {m : MethodId} {args : Array Value} {below : List Frame} {meth : Method} {c : Code} {H : Heap} {locs : List Loc} {cells slots : Nat} {Q : State → Prop}
variable {mc ms : Nat} {free : Addr → Prop} {A0 A1 : Nat → Prop} {H0 : Heap} {a : Array Value} {ls : Array Slot} {st0 rest : List Value}
variable {Qc : Array Value → State → Outcome → State → Prop} {XC : String → State → State → Prop}
/-- what a body that may throw owes at its end -/
def vx_MQ (below : List Frame) (Qc : Array Value → State → Outcome → State → Prop) (XC : String → State → State → Prop) (a : Array Value) (s : State) (mc ms : Nat) (free : Addr → Prop) : State → Prop := fun t =>
  ∃ o, t.status = .running ∧ Ended t below o ∧ vx_Q Qc XC mc ms free a s o t
theorem vx_ret {g : JFrame} {mc ms : Nat} (k : W p l e R s m args below meth c H locs cells slots (MQ below Qc args s mc ms free) g) : W p l e R s m args below meth c H locs cells slots (vx_MQ below Qc XC args s mc ms free) g := by
  intro T hT X
  obtain ⟨t, a1, o, b1, b2, b3, b4⟩ := k T hT X
  exact ⟨t, a1, o, b1, b2, Or.inl ⟨b3, b4⟩⟩
/-- not caught here: it goes on to the caller -/
theorem vx_widen {g : JFrame} {q : Addr} {k n : Nat} (h1 : cells ≤ k) (h2 : slots ≤ n) (kk : vx_W p l e R s m args below meth c H locs k n Q g q) : vx_W p l e R s m args below meth c H locs cells slots Q g q := fun T hT X => kk T hT (stand_widen X h1 h2)
theorem vx_out {pc : Nat} {E : String} {ce : Cell} {q : Addr} {mc ms : Nat} (hout : ∀ x ∈ c.exceptionTable.toList, covers x pc = false) (hlocks : meth.locks = false) (hcell : H[q]? = some ce) (hv : ce.vm = .none) (hcl : s.vm.findClass E = some ce.cls)
    (hx : ∀ t : State, t.heap = H → s.vm.Alike t.vm → XC E s t) (hf : ∀ z ∈ locs, free z.base) (hc : cells ≤ mc) (hs : slots ≤ ms) :
    vx_W p l e R s m args below meth c H locs cells slots (vx_MQ below Qc XC args s mc ms free) (F0 m pc ls rest) q := by
  intro T hT X
  obtain ⟨st1, hrun, hend, hW, hsm⟩ := X.leaveThrown q (g := F0 m pc ls rest) rfl rfl rfl hout hlocks
  have hcell9 : (T.setFrames (.throwing q :: below)).heap[q]? = some ce := by
    show T.heap[q]? = some ce
    rw [hT]; exact hcell
  exact ⟨_, st1, .threw q, hrun, hend, Or.inr ⟨q, rfl, E, ce, locs, hx _ hT hW.alike, hcell9, hv, hcl, hW, hsm.mono hc hs, hf⟩⟩
theorem vx_frame {U : State} {k n : Nat} (h : s.sameButNew ({ U with vm := s.vm } : State) locs k n) : s.heap.size ≤ U.heap.size ∧ ∀ q : Nat, q < s.heap.size → (∀ z ∈ locs, z.base ≠ q) → U.heap[q]? = s.heap[q]? := by
  obtain ⟨-, h2, -, -, -, h6⟩ := h
  refine ⟨h2, fun q hq hz => ?_⟩
  obtain ⟨c9, e1, e2, e3, e4⟩ := h6 q _ (Array.getElem?_eq_getElem hq)
  have hs : c9.slots = (s.heap[q]).slots := Array.ext_getElem? fun i => e4 i fun hm => hz _ hm rfl
  have h9 : c9 = s.heap[q] := by
    rw [hs] at e2
    exact e2
  have e5 : U.heap[q]? = some c9 := e1
  rw [e5, h9, Array.getElem?_eq_getElem hq]
/-- the words of a throw but the four that speak of the heap -/
def vx_no (w : Cond) : Bool := decide (w ≠ .isRef (.static Bundle.tN "UNASSIGNED_STACK" Bundle.steD)) && decide (w ≠ .isRef (.static Bundle.tN "SUPPRESSED_SENTINEL" Bundle.listD)) && decide (w ≠ .laysStatic Bundle.tN "UNASSIGNED_STACK" Bundle.steD) && decide (w ≠ .laysStatic Bundle.tN "SUPPRESSED_SENTINEL" Bundle.listD)
def vx_at0 (own : String) (ic : Nat) (X : String) (names : List String) : List Cond := (Bundle.ownAtoms0 own ic X names).filter vx_no
def vx_atS (own : String) (ic : Nat) (X : String) (names : List String) : List Cond := (Bundle.ownAtoms own ic X names).filter vx_no
/-- a word that the tables alone decide, or a good one -/
def vx_ot (w : Cond) : Bool := w.onTables || goodWord w
theorem vx_ot_at {args a' : Array Value} {s U : State} {w : Cond} (hW : s.WarmedH U.vm) (hvm : s.vm = U.vm) (hg : vx_ot w = true) (h : w.before args s = true) : w.before a' U = true := by
  simp only [vx_ot, Bool.or_eq_true] at hg
  rcases hg with hg | hg
  · exact va_tabs hg hvm h
  · exact word_at hW (good_of_word hg) h
/-- a list's words: the good ones out of the method's own list, the others by premises of their own -/
theorem vx_hat {args : Array Value} {s : State} {L B : List Cond} (h1 : ∀ w ∈ L.filter goodWord, w.before args s = true) (h2 : ∀ w ∈ L.filter (fun w => !goodWord w), w ∈ B) (h3 : ∀ w ∈ B, w.before args s = true) : ∀ w ∈ L, w.before args s = true := by
  intro w hw
  by_cases g : goodWord w = true
  · exact h1 w (List.mem_filter.mpr ⟨hw, g⟩)
  · refine h3 w (h2 w (List.mem_filter.mpr ⟨hw, ?_⟩))
    show (!goodWord w) = true
    cases hgw : goodWord w
    · rfl
    · exact absurd hgw g
theorem vx_c {args : Array Value} {s : State} {w : Cond} {B : List Cond} (h : w.before args s = true) (t : ∀ w ∈ B, w.before args s = true) : ∀ w' ∈ w :: B, w'.before args s = true := fun w' h' => (List.mem_cons.mp h').elim (fun e => by rw [e]; exact h) (t w')
theorem vx_n {args : Array Value} {s : State} : ∀ w ∈ ([] : List Cond), w.before args s = true := fun _ h => nomatch h
theorem vx_own {args : Array Value} {s : State} {L : List Cond} (h1 : ∀ w ∈ L.filter vx_no, w.before args s = true)
    (hU : (Cond.isRef (.static Bundle.tN "UNASSIGNED_STACK" Bundle.steD)).before args s = true) (hN : (Cond.isRef (.static Bundle.tN "SUPPRESSED_SENTINEL" Bundle.listD)).before args s = true)
    (lU : (Cond.laysStatic Bundle.tN "UNASSIGNED_STACK" Bundle.steD).before args s = true) (lN : (Cond.laysStatic Bundle.tN "SUPPRESSED_SENTINEL" Bundle.listD).before args s = true) : ∀ w ∈ L, w.before args s = true := by
  intro w hw
  by_cases e1 : w = .isRef (.static Bundle.tN "UNASSIGNED_STACK" Bundle.steD)
  · rw [e1]; exact hU
  · by_cases e2 : w = .isRef (.static Bundle.tN "SUPPRESSED_SENTINEL" Bundle.listD)
    · rw [e2]; exact hN
    · by_cases e3 : w = .laysStatic Bundle.tN "UNASSIGNED_STACK" Bundle.steD
      · rw [e3]; exact lU
      · by_cases e4 : w = .laysStatic Bundle.tN "SUPPRESSED_SENTINEL" Bundle.listD
        · rw [e4]; exact lN
        · exact h1 w (List.mem_filter.mpr ⟨hw, by unfold vx_no; rw [decide_eq_true e1, decide_eq_true e2, decide_eq_true e3, decide_eq_true e4]; rfl⟩)
/-- where a static field lies, its class's statics cell in H -/
def vx_L (C n d : String) (A : Nat → Prop) (U : State) (H : Heap) : Prop := ∃ (c : ClassId) (k : Class) (i : Nat) (f : Field) (a : Nat) (cell : Cell), U.vm.findClass C = some c ∧ U.fieldFound? C n d = some (c, k, i, f) ∧ f.isStatic = true ∧ k.statics = some a ∧ H[a]? = some cell ∧ cell.vm.isStatics = true ∧ cell.cls = c ∧ f.slot < cell.slots.size ∧ k.staticTypes[f.slot]? = some f.type ∧ ¬ A a
theorem vx_L.moved {C n d : String} {A : Nat → Prop} {u U : State} {H : Heap} (hvm : u.vm.Alike U.vm) (h : vx_L C n d A u H) : vx_L C n d A U H := by
  obtain ⟨c, k, i, f, a, cell, h1, h2, h3, h4, h5, h6, h7, h8, h9, h10⟩ := h
  obtain ⟨k', hi', he⟩ := State.fieldFound?_setVm hvm h2
  exact ⟨c, k', i, f, a, cell, by rw [hvm.findClass]; exact h1, hi', h3, by rw [he]; exact h4, h5, h6, h7, h8, by rw [he]; exact h9, h10⟩
theorem vx_L.kept {C n d : String} {A : Nat → Prop} {U : State} {H H1 : Heap} (h : vx_L C n d A U H) (hq : ∀ a : Nat, a < H.size → ¬ A a → H1[a]? = H[a]?) : vx_L C n d A U H1 := by
  obtain ⟨c, k, i, f, a, cell, h1, h2, h3, h4, h5, h6, h7, h8, h9, h10⟩ := h
  exact ⟨c, k, i, f, a, cell, h1, h2, h3, h4, by rw [hq a (Array.getElem?_eq_some_iff.mp h5).1 h10]; exact h5, h6, h7, h8, h9, h10⟩
theorem vx_L.narrow {C n d : String} {A B : Nat → Prop} {U : State} {H : Heap} (h : vx_L C n d A U H) (hAB : ∀ q, B q → A q) : vx_L C n d B U H := by
  obtain ⟨c, k, i, f, a, cell, h1, h2, h3, h4, h5, h6, h7, h8, h9, h10⟩ := h
  exact ⟨c, k, i, f, a, cell, h1, h2, h3, h4, h5, h6, h7, h8, h9, fun z => h10 (hAB _ z)⟩
theorem vx_L.word {C n d : String} {A : Nat → Prop} {s : State} {args : Array Value} (h : vx_L C n d A s s.heap) : (Cond.laysStatic C n d).before args s = true := by
  obtain ⟨c, k, i, f, a, cell, h1, h2, h3, h4, h5, h6, h7, h8, h9, -⟩ := h
  show (Cond.laysStatic C n d).holds args s none s [] = true
  exact Cond.laysStatic_of h1 h2 h3 h4 h5 h6 h7 h8 h9
/-- .. and what it holds: null or some reference -/
def vx_Zq (C n d : String) (A : Nat → Prop) (U : State) (H : Heap) : Prop := va_Zq C n d A U H ∧ vx_L C n d A U H
theorem vx_Zq.moved {C n d : String} {A : Nat → Prop} {u U : State} {H : Heap} (hvm : u.vm.Alike U.vm) (h : vx_Zq C n d A u H) : vx_Zq C n d A U H := ⟨va_Zq.moved hvm h.1, vx_L.moved hvm h.2⟩
theorem vx_Zq.kept {C n d : String} {A : Nat → Prop} {U : State} {H H1 : Heap} (h : vx_Zq C n d A U H) (hq : ∀ a : Nat, a < H.size → ¬ A a → H1[a]? = H[a]?) : vx_Zq C n d A U H1 := ⟨va_Zq.kept h.1 hq, vx_L.kept h.2 hq⟩
theorem vx_Zq.narrow {C n d : String} {A B : Nat → Prop} {U : State} {H : Heap} (h : vx_Zq C n d A U H) (hAB : ∀ q, B q → A q) : vx_Zq C n d B U H := ⟨va_Zq.narrow h.1 hAB, vx_L.narrow h.2 hAB⟩
theorem vx_Zqof {args : Array Value} {s : State} {C n d : String} {A : Nat → Prop} (hl : (Cond.laysStatic C n d).before args s = true) (hini : (Cond.initialized C).before args s = true) (h : (Cond.isRef (.static C n d)).before args s = true) (hA : ∀ a : Nat, a < s.heap.size → ¬ A a) : vx_Zq C n d A s s.heap := by
  refine ⟨va_Zqof hl hini h hA, ?_⟩
  obtain ⟨c, k, i, f, a, cell, h1, h2, h3, h4, h5, h6, h7, h8, h9⟩ := Cond.laysStatic_spec hl
  exact ⟨c, k, i, f, a, cell, h1, h2, h3, h4, h5, h6, h7, h8, h9, hA a (Array.getElem?_eq_some_iff.mp h5).1⟩
theorem vx_isRef {C n d : String} {v : Value} {A : Nat → Prop} {s : State} {args : Array Value} (h : va_Z C n d v A s s.heap) (hv : v.isRef = true) : (Cond.isRef (.static C n d)).before args s = true := by
  obtain ⟨cf, kf, fi, f, a, cell, h1, h2, h3, h4, h5, h6, h7, -⟩ := h
  have he : (Term.static C n d).eval args s none [] s = some v := by
    simp [Term.eval, State.fieldNamed?, h1, h2, h4, h5, h6, h7]
  simp only [Cond.before, Cond.holds, Cond.value, he]
  cases v <;> simp_all [Value.isRef]
theorem vx_isRefq {C n d : String} {A : Nat → Prop} {s : State} {args : Array Value} (h : va_Zq C n d A s s.heap) : (Cond.isRef (.static C n d)).before args s = true := by
  rcases h with h | ⟨t, h⟩
  · exact vx_isRef h rfl
  · exact vx_isRef h rfl
/-- the same frame, seen from here: as if the method were called anew in this heap -/
theorem vx_rebase {T : State} (X : Stand p l e R s m args below meth c T locs cells slots) {R' : Room} (hf : R'.frames ≤ R.frames) (hl : R'.locals ≤ R.locals) (hc : cells + R'.cells ≤ R.cells) (hs : slots + R'.slots ≤ R.slots) :
    Stand p l e R' ((T.setVm s.vm).setFrames (.invoking m args :: below)) m args below meth c T [] 0 0 := by
  have htop : (T.setVm s.vm).topJava?.isSome := X.here.top
  have hF : ((T.setVm s.vm).setFrames (.invoking m args :: below)).frames = .invoking m args :: below := State.frames_setFrames _ (State.cur_lt_of_top htop)
  obtain ⟨g₀, hg0⟩ := Option.isSome_iff_exists.mp htop
  obtain ⟨r, hr⟩ := State.topJava?_eq_some.mp hg0
  have hl9 : e.platform.stackLimits (T.setVm s.vm).me = e.platform.stackLimits s.me := X.limits
  have hb9 : (T.setVm s.vm).me.stackBytes = s.me.stackBytes := X.bytes
  refine ⟨X.admits, X.cas, X.clock, hF, ?_, X.hears, X.method, X.code, X.here, X.tail, X.warmed, ?_, ?_, ?_⟩
  · have h := X.room
    have hU : ((T.setVm s.vm).setFrames (.invoking m args :: below)).localsInUse = s.localsInUse := by
      rw [State.localsInUse_invoking hF (meth := meth) (c := c) X.method X.code, State.localsInUse_invoking X.frames X.method X.code]
    simp only [State.hasRoom, Bool.and_eq_true, decide_eq_true_eq] at h ⊢
    obtain ⟨⟨⟨⟨h1, h2, h3, h4, h5, h6⟩, h7⟩, h8⟩, h9⟩ := h
    rw [X.frames, List.length_cons] at h2 h3
    have q1 := X.heapSize
    have q2 := X.used
    simp only [hF, hU, List.length_cons, State.stackLimits_setFrames, State.stackBytes_setFrames, hl9, hb9]
    refine ⟨⟨⟨⟨by omega, by omega, by omega, by omega, by omega, h6⟩, ?_⟩, ?_⟩, X.book⟩
    · show T.heap.size + R'.cells ≤ e.platform.maxCells
      omega
    · show T.slotsUsed + R'.slots ≤ e.platform.maxSlots
      omega
  · rw [State.stackLimits_setFrames]; rfl
  · rw [State.stackBytes_setFrames]; rfl
  · refine ⟨?_, Nat.le_refl _, Nat.le_refl _, ?_, ?_, fun a c9 h9 => ⟨c9, h9, rfl, rfl, fun _ _ => rfl⟩⟩
    · obtain ⟨t, ht, -⟩ := State.frames_cons hr
      show T.setVm s.vm = { ((T.setVm s.vm).setFrames (.invoking m args :: below)).setFrames (T.setVm s.vm).frames with heap := T.heap, slotsUsed := T.slotsUsed }
      rw [State.setFrames_setFrames, State.setFrames_self ht]
      rfl
    · show T.slotsUsed = T.slotsUsed + ((T.heap.toList.drop T.heap.size).map (·.slots.size)).sum
      rw [List.drop_eq_nil_of_le (Nat.le_of_eq Array.length_toList)]
      rfl
    · show ((T.heap.toList.drop T.heap.size).map (·.slots.size)).sum ≤ 0
      rw [List.drop_eq_nil_of_le (Nat.le_of_eq Array.length_toList)]
      exact Nat.le_refl _
/-- 'throw new E()': new; dup; invokespecial; athrow -/
theorem vx_throw0 {cc : ByteArray} {pc : Nat} (hexec : p.tables.exec = Jvm.exec) (hb : c.code = cc) (hl : l.stackTraces = false) {own cls : String} {names : List String} {ik ic mc ms : Nat} {A : Nat → Prop}
    (hown : s.vm.findClass own = some m.cls) (hcls : Bundle.fit cls = true) (hnames : ∀ n ∈ names, Bundle.fit n = true)
    (hk : (Cond.classLink own ik cls).before args s = true) (hini : (Cond.initialized cls).before args s = true) (hat : ∀ w ∈ vx_at0 own ic cls names, w.before args s = true)
    (hgood : ∀ w ∈ Cond.classLink own ik cls :: Cond.initialized cls :: vx_at0 own ic cls names, vx_ot w = true)
    (hU : vx_Zq Bundle.tN "UNASSIGNED_STACK" Bundle.steD A s s.heap) (hN : vx_Zq Bundle.tN "SUPPRESSED_SENTINEL" Bundle.listD A s s.heap) (hS : va_S A s.heap H locs) (hsize : ls.size = c.maxLocals)
    (d0 : decode cc pc = .ok (.new ik, 3)) (d3 : decode cc (pc + 3) = .ok (.dup, 1)) (d4 : decode cc (pc + 4) = .ok (.invokespecial ic, 3)) (d7 : decode cc (pc + 7) = .ok (.athrow, 1))
    (hout : ∀ x ∈ c.exceptionTable.toList, covers x (pc + 7) = false)
    (hRframes : names.length + 3 < R.frames) (hRlocals : (rest.map fun v => v.category).sum + (13 * (names.length + 1) + 42) ≤ R.locals) (hRcells : cells + 1 ≤ R.cells) (hRslots : slots + 6 ≤ R.slots) (hlocks : meth.locks = false)
    (hx : ∀ t : State, s.vm.Alike t.vm → H.size ≤ t.heap.size → (∀ q : Nat, q < H.size → t.heap[q]? = H[q]?) → XC cls s t)
    (hf : ∀ z ∈ locs, free z.base) (hc : cells + 1 ≤ mc) (hs : slots + 6 ≤ ms) :
    W p l e R s m args below meth c H locs cells slots (vx_MQ below Qc XC args s mc ms free) (F0 m pc ls rest) := by
  intro T hT X
  have htr : e.platform.stackTraces = false := (show e.platform.stackTraces = l.stackTraces by rw [X.admits.platform]).trans hl
  have Y := vx_rebase X (R' := { frames := R.frames, locals := R.locals, cells := 1, slots := 6 }) (Nat.le_refl _) (Nat.le_refl _) hRcells hRslots
  obtain ⟨s', hA⟩ : ∃ z, z = (T.setVm s.vm).setFrames (.invoking m args :: below) := ⟨_, rfl⟩
  rw [← hA] at Y
  have hvm : s'.vm = s.vm := by rw [hA]; rfl
  have hhp : s'.heap = H := by rw [hA]; exact hT
  have hW0 : s.WarmedH s'.vm := by rw [hvm]; exact State.WarmedH.refl s
  have hat' : ∀ w ∈ vx_at0 own ic cls names, w.before args s' = true := fun w hw => vx_ot_at hW0 hvm.symm (hgood w (List.mem_cons_of_mem _ (List.mem_cons_of_mem _ hw))) (hat w hw)
  have hk' : (Cond.classLink own ik cls).before args s' = true := vx_ot_at hW0 hvm.symm (hgood _ List.mem_cons_self) hk
  have hini' : (Cond.initialized cls).before args s' = true := vx_ot_at hW0 hvm.symm (hgood _ (List.mem_cons_of_mem _ List.mem_cons_self)) hini
  have hU' : vx_Zq Bundle.tN "UNASSIGNED_STACK" Bundle.steD A s' s'.heap := by rw [hhp]; exact vx_Zq.moved hW0.alike (hU.kept hS.2.1)
  have hN' : vx_Zq Bundle.tN "SUPPRESSED_SENTINEL" Bundle.listD A s' s'.heap := by rw [hhp]; exact vx_Zq.moved hW0.alike (hN.kept hS.2.1)
  have h : ∀ w ∈ Bundle.ownAtoms0 own ic cls names, w.before args s' = true := vx_own hat' (vx_isRefq hU'.1) (vx_isRefq hN'.1) hU'.2.word hN'.2.word
  have hown' : s'.vm.findClass own = some m.cls := by rw [hvm]; exact hown
  have hins : (Cond.instantiable cls 6).before args s' = true := h _ (by simp [Bundle.ownAtoms0])
  obtain ⟨vm₁, cX, kX, hfX, hkX, -, -, X₁, st1⟩ := Y.newCold hexec (own := own) (C := cls) (index := ik) (n := 6) hown' hk' hins hini'
    (g := F0 m pc ls rest) rfl (by rw [hb]; exact d0) (Nat.le_refl _) (Nat.le_refl _)
  generalize hT1 : (T.setVm vm₁).pushCell { cls := cX, slots := kX.instanceTypes.map defaultValue, vm := .none } = T1 at X₁ st1
  have hcat : (Value.ref T.heap.size).category = 1 := rfl
  have hcellA : T1.heap[T.heap.size]? = some (freshCell cX kX) := by rw [← hT1]; exact State.heap_pushCell_size _ _
  have d3' : decode c.code (pc + 3) = .ok (.dup, 1) := by rw [hb]; exact d3
  obtain ⟨U, hsteps, hrun, hend, hW, hsame, ce, hce, hO⟩ := X₁.ctorThrow0 hexec htr (own := own) (cls := cls) (names := names) (ic := ic) hown' hcls hnames h (fun x hx => nomatch hx) hfX hkX hcellA (by rw [hhp, hT]; exact Nat.le_refl _)
    (g := { method := m, pc := pc + 4, locals := ls, stack := .ref T.heap.size :: .ref T.heap.size :: rest, locked := none }) rfl hsize rfl rfl (rest := rest) rfl
    (by rw [hb]; exact d4) (by rw [hb]; exact d7) hout hRframes (by simp only [List.map_cons, List.sum_cons, hcat]; omega) hlocks
  obtain ⟨f1, f2⟩ := vx_frame hsame
  rw [hhp] at f1 f2
  have hWs : s.WarmedH U.vm := State.WarmedH.trans hW0 hW
  have hcl : s.vm.findClass cls = some ce.cls := by
    have h9 := hO.cls
    rw [hvm] at h9
    exact h9
  have hall : s.sameButNew ({ U with vm := s.vm } : State) locs mc ms := by
    subst hA
    obtain ⟨e1, e2⟩ := hsame
    rw [State.setFrames_setFrames] at e1
    have h2 : (T.setVm s.vm).sameButNew ({ U with vm := s.vm } : State) [] (0 + 1) (0 + 6) := ⟨e1, e2⟩
    have h3 := X.same.trans h2
    rw [List.append_nil] at h3
    exact h3.mono hc hs
  refine ⟨U, ?_, .threw T.heap.size, hrun, hend, Or.inr ⟨T.heap.size, rfl, cls, ce, locs, hx U hWs.alike f1 (fun q hq => f2 q hq (fun z hz => nomatch hz)), hce, hO.vm, hcl, hWs, hall, hf⟩⟩
  refine st1 _ ?_
  show Steps p.tables e below (T1.setTop { method := m, pc := pc + 3, locals := ls, stack := .ref T.heap.size :: rest, locked := none }) _
  jvm_step X₁.here [X₁.here.top, hexec, d3', Value.category]
  exact hsteps
/-- 'throw new E("text")': new; dup; ldc; invokespecial; athrow -/
theorem vx_throwS {cc : ByteArray} {pc : Nat} (hexec : p.tables.exec = Jvm.exec) (hb : c.code = cc) (hl : l.stackTraces = false) {own cls text : String} {names : List String} {ik is ic mc ms sa : Nat} {A : Nat → Prop}
    (hown : s.vm.findClass own = some m.cls) (hcls : Bundle.fit cls = true) (hnames : ∀ n ∈ names, Bundle.fit n = true)
    (hk : (Cond.classLink own ik cls).before args s = true) (hini : (Cond.initialized cls).before args s = true) (hstr : vk_R own is text sa s) (hat : ∀ w ∈ vx_atS own ic cls names, w.before args s = true)
    (hgood : ∀ w ∈ Cond.classLink own ik cls :: Cond.initialized cls :: vx_atS own ic cls names, vx_ot w = true)
    (hU : vx_Zq Bundle.tN "UNASSIGNED_STACK" Bundle.steD A s s.heap) (hN : vx_Zq Bundle.tN "SUPPRESSED_SENTINEL" Bundle.listD A s s.heap) (hS : va_S A s.heap H locs) (hsize : ls.size = c.maxLocals)
    (d0 : decode cc pc = .ok (.new ik, 3)) (d3 : decode cc (pc + 3) = .ok (.dup, 1)) (d4 : decode cc (pc + 4) = .ok (.ldc is, 2)) (d6 : decode cc (pc + 6) = .ok (.invokespecial ic, 3)) (d9 : decode cc (pc + 9) = .ok (.athrow, 1))
    (hout : ∀ x ∈ c.exceptionTable.toList, covers x (pc + 9) = false)
    (hRframes : names.length + 3 < R.frames) (hRlocals : (rest.map fun v => v.category).sum + (13 * (names.length + 1) + 43) ≤ R.locals) (hRcells : cells + 1 ≤ R.cells) (hRslots : slots + 6 ≤ R.slots) (hlocks : meth.locks = false)
    (hx : ∀ t : State, s.vm.Alike t.vm → H.size ≤ t.heap.size → (∀ q : Nat, q < H.size → t.heap[q]? = H[q]?) → XC cls s t)
    (hf : ∀ z ∈ locs, free z.base) (hc : cells + 1 ≤ mc) (hs : slots + 6 ≤ ms) :
    W p l e R s m args below meth c H locs cells slots (vx_MQ below Qc XC args s mc ms free) (F0 m pc ls rest) := by
  intro T hT X
  have htr : e.platform.stackTraces = false := (show e.platform.stackTraces = l.stackTraces by rw [X.admits.platform]).trans hl
  have Y := vx_rebase X (R' := { frames := R.frames, locals := R.locals, cells := 1, slots := 6 }) (Nat.le_refl _) (Nat.le_refl _) hRcells hRslots
  obtain ⟨s', hA⟩ : ∃ z, z = (T.setVm s.vm).setFrames (.invoking m args :: below) := ⟨_, rfl⟩
  rw [← hA] at Y
  have hvm : s'.vm = s.vm := by rw [hA]; rfl
  have hhp : s'.heap = H := by rw [hA]; exact hT
  have hW0 : s.WarmedH s'.vm := by rw [hvm]; exact State.WarmedH.refl s
  have hat' : ∀ w ∈ vx_atS own ic cls names, w.before args s' = true := fun w hw => vx_ot_at hW0 hvm.symm (hgood w (List.mem_cons_of_mem _ (List.mem_cons_of_mem _ hw))) (hat w hw)
  have hk' : (Cond.classLink own ik cls).before args s' = true := vx_ot_at hW0 hvm.symm (hgood _ List.mem_cons_self) hk
  have hini' : (Cond.initialized cls).before args s' = true := vx_ot_at hW0 hvm.symm (hgood _ (List.mem_cons_of_mem _ List.mem_cons_self)) hini
  have hU' : vx_Zq Bundle.tN "UNASSIGNED_STACK" Bundle.steD A s' s'.heap := by rw [hhp]; exact vx_Zq.moved hW0.alike (hU.kept hS.2.1)
  have hN' : vx_Zq Bundle.tN "SUPPRESSED_SENTINEL" Bundle.listD A s' s'.heap := by rw [hhp]; exact vx_Zq.moved hW0.alike (hN.kept hS.2.1)
  have h : ∀ w ∈ Bundle.ownAtoms own ic cls names, w.before args s' = true := vx_own hat' (vx_isRefq hU'.1) (vx_isRefq hN'.1) hU'.2.word hN'.2.word
  have hown' : s'.vm.findClass own = some m.cls := by rw [hvm]; exact hown
  have hins : (Cond.instantiable cls 6).before args s' = true := h _ (by simp [Bundle.ownAtoms])
  obtain ⟨vm₁, cX, kX, hfX, hkX, -, -, X₁, st1⟩ := Y.newCold hexec (own := own) (C := cls) (index := ik) (n := 6) hown' hk' hins hini'
    (g := F0 m pc ls rest) rfl (by rw [hb]; exact d0) (Nat.le_refl _) (Nat.le_refl _)
  generalize hT1 : (T.setVm vm₁).pushCell { cls := cX, slots := kX.instanceTypes.map defaultValue, vm := .none } = T1 at X₁ st1
  have hcat : (Value.ref T.heap.size).category = 1 := rfl
  have hcellA : T1.heap[T.heap.size]? = some (freshCell cX kX) := by rw [← hT1]; exact State.heap_pushCell_size _ _
  have d3' : decode c.code (pc + 3) = .ok (.dup, 1) := by rw [hb]; exact d3
  have d4' : decode c.code (pc + 4) = .ok (.ldc is, 2) := by rw [hb]; exact d4
  have hstr' : vk_R own is text sa s' := vk_R.warm hW0 hstr
  obtain ⟨U, hsteps, hrun, hend, hW, hsame, ce, hce, hO⟩ := X₁.ctorThrowS hexec htr (own := own) (cls := cls) (names := names) (ic := ic) hown' hcls hnames h (fun x hx => nomatch hx) hfX hkX hcellA (by rw [hhp, hT]; exact Nat.le_refl _) (msg := .ref sa) rfl
    (g := { method := m, pc := pc + 6, locals := ls, stack := .ref sa :: .ref T.heap.size :: .ref T.heap.size :: rest, locked := none }) rfl hsize rfl rfl (rest := rest) rfl
    (by rw [hb]; exact d6) (by rw [hb]; exact d9) hout hRframes (by simp only [List.map_cons, List.sum_cons, hcat]; omega) hlocks
  obtain ⟨f1, f2⟩ := vx_frame hsame
  rw [hhp] at f1 f2
  have hWs : s.WarmedH U.vm := State.WarmedH.trans hW0 hW
  have hcl : s.vm.findClass cls = some ce.cls := by
    have h9 := hO.cls
    rw [hvm] at h9
    exact h9
  have hall : s.sameButNew ({ U with vm := s.vm } : State) locs mc ms := by
    subst hA
    obtain ⟨e1, e2⟩ := hsame
    rw [State.setFrames_setFrames] at e1
    have h2 : (T.setVm s.vm).sameButNew ({ U with vm := s.vm } : State) [] (0 + 1) (0 + 6) := ⟨e1, e2⟩
    have h3 := X.same.trans h2
    rw [List.append_nil] at h3
    exact h3.mono hc hs
  refine ⟨U, ?_, .threw T.heap.size, hrun, hend, Or.inr ⟨T.heap.size, rfl, cls, ce, locs, hx U hWs.alike f1 (fun q hq => f2 q hq (fun z hz => nomatch hz)), hce, hO.vm, hcl, hWs, hall, hf⟩⟩
  refine st1 _ ?_
  show Steps p.tables e below (T1.setTop { method := m, pc := pc + 3, locals := ls, stack := .ref T.heap.size :: rest, locked := none }) _
  jvm_step X₁.here [X₁.here.top, hexec, d3', Value.category]
  exact X₁.ldcString hexec (own := own) (text := text) (index := is) (a := sa) hown' hstr'.1 hstr'.2
    (g := { method := m, pc := pc + 4, locals := ls, stack := .ref T.heap.size :: .ref T.heap.size :: rest, locked := none }) rfl d4' _ hsteps
/-- 'throw new E("text")', the text by a wide index -/
theorem vx_throwSW {cc : ByteArray} {pc : Nat} (hexec : p.tables.exec = Jvm.exec) (hb : c.code = cc) (hl : l.stackTraces = false) {own cls text : String} {names : List String} {ik is ic mc ms sa : Nat} {A : Nat → Prop}
    (hown : s.vm.findClass own = some m.cls) (hcls : Bundle.fit cls = true) (hnames : ∀ n ∈ names, Bundle.fit n = true)
    (hk : (Cond.classLink own ik cls).before args s = true) (hini : (Cond.initialized cls).before args s = true) (hstr : vk_R own is text sa s) (hat : ∀ w ∈ vx_atS own ic cls names, w.before args s = true)
    (hgood : ∀ w ∈ Cond.classLink own ik cls :: Cond.initialized cls :: vx_atS own ic cls names, vx_ot w = true)
    (hU : vx_Zq Bundle.tN "UNASSIGNED_STACK" Bundle.steD A s s.heap) (hN : vx_Zq Bundle.tN "SUPPRESSED_SENTINEL" Bundle.listD A s s.heap) (hS : va_S A s.heap H locs) (hsize : ls.size = c.maxLocals)
    (d0 : decode cc pc = .ok (.new ik, 3)) (d3 : decode cc (pc + 3) = .ok (.dup, 1)) (d4 : decode cc (pc + 4) = .ok (.ldc_w is, 3)) (d7 : decode cc (pc + 7) = .ok (.invokespecial ic, 3)) (d10 : decode cc (pc + 10) = .ok (.athrow, 1))
    (hout : ∀ x ∈ c.exceptionTable.toList, covers x (pc + 10) = false)
    (hRframes : names.length + 3 < R.frames) (hRlocals : (rest.map fun v => v.category).sum + (13 * (names.length + 1) + 43) ≤ R.locals) (hRcells : cells + 1 ≤ R.cells) (hRslots : slots + 6 ≤ R.slots) (hlocks : meth.locks = false)
    (hx : ∀ t : State, s.vm.Alike t.vm → H.size ≤ t.heap.size → (∀ q : Nat, q < H.size → t.heap[q]? = H[q]?) → XC cls s t)
    (hf : ∀ z ∈ locs, free z.base) (hc : cells + 1 ≤ mc) (hs : slots + 6 ≤ ms) :
    W p l e R s m args below meth c H locs cells slots (vx_MQ below Qc XC args s mc ms free) (F0 m pc ls rest) := by
  intro T hT X
  have htr : e.platform.stackTraces = false := (show e.platform.stackTraces = l.stackTraces by rw [X.admits.platform]).trans hl
  have Y := vx_rebase X (R' := { frames := R.frames, locals := R.locals, cells := 1, slots := 6 }) (Nat.le_refl _) (Nat.le_refl _) hRcells hRslots
  obtain ⟨s', hA⟩ : ∃ z, z = (T.setVm s.vm).setFrames (.invoking m args :: below) := ⟨_, rfl⟩
  rw [← hA] at Y
  have hvm : s'.vm = s.vm := by rw [hA]; rfl
  have hhp : s'.heap = H := by rw [hA]; exact hT
  have hW0 : s.WarmedH s'.vm := by rw [hvm]; exact State.WarmedH.refl s
  have hat' : ∀ w ∈ vx_atS own ic cls names, w.before args s' = true := fun w hw => vx_ot_at hW0 hvm.symm (hgood w (List.mem_cons_of_mem _ (List.mem_cons_of_mem _ hw))) (hat w hw)
  have hk' : (Cond.classLink own ik cls).before args s' = true := vx_ot_at hW0 hvm.symm (hgood _ List.mem_cons_self) hk
  have hini' : (Cond.initialized cls).before args s' = true := vx_ot_at hW0 hvm.symm (hgood _ (List.mem_cons_of_mem _ List.mem_cons_self)) hini
  have hU' : vx_Zq Bundle.tN "UNASSIGNED_STACK" Bundle.steD A s' s'.heap := by rw [hhp]; exact vx_Zq.moved hW0.alike (hU.kept hS.2.1)
  have hN' : vx_Zq Bundle.tN "SUPPRESSED_SENTINEL" Bundle.listD A s' s'.heap := by rw [hhp]; exact vx_Zq.moved hW0.alike (hN.kept hS.2.1)
  have h : ∀ w ∈ Bundle.ownAtoms own ic cls names, w.before args s' = true := vx_own hat' (vx_isRefq hU'.1) (vx_isRefq hN'.1) hU'.2.word hN'.2.word
  have hown' : s'.vm.findClass own = some m.cls := by rw [hvm]; exact hown
  have hins : (Cond.instantiable cls 6).before args s' = true := h _ (by simp [Bundle.ownAtoms])
  obtain ⟨vm₁, cX, kX, hfX, hkX, -, -, X₁, st1⟩ := Y.newCold hexec (own := own) (C := cls) (index := ik) (n := 6) hown' hk' hins hini'
    (g := F0 m pc ls rest) rfl (by rw [hb]; exact d0) (Nat.le_refl _) (Nat.le_refl _)
  generalize hT1 : (T.setVm vm₁).pushCell { cls := cX, slots := kX.instanceTypes.map defaultValue, vm := .none } = T1 at X₁ st1
  have hcat : (Value.ref T.heap.size).category = 1 := rfl
  have hcellA : T1.heap[T.heap.size]? = some (freshCell cX kX) := by rw [← hT1]; exact State.heap_pushCell_size _ _
  have d3' : decode c.code (pc + 3) = .ok (.dup, 1) := by rw [hb]; exact d3
  have d4' : decode c.code (pc + 4) = .ok (.ldc_w is, 3) := by rw [hb]; exact d4
  have hstr' : vk_R own is text sa s' := vk_R.warm hW0 hstr
  obtain ⟨U, hsteps, hrun, hend, hW, hsame, ce, hce, hO⟩ := X₁.ctorThrowS hexec htr (own := own) (cls := cls) (names := names) (ic := ic) hown' hcls hnames h (fun x hx => nomatch hx) hfX hkX hcellA (by rw [hhp, hT]; exact Nat.le_refl _) (msg := .ref sa) rfl
    (g := { method := m, pc := pc + 7, locals := ls, stack := .ref sa :: .ref T.heap.size :: .ref T.heap.size :: rest, locked := none }) rfl hsize rfl rfl (rest := rest) rfl
    (by rw [hb]; exact d7) (by rw [hb]; exact d10) hout hRframes (by simp only [List.map_cons, List.sum_cons, hcat]; omega) hlocks
  obtain ⟨f1, f2⟩ := vx_frame hsame
  rw [hhp] at f1 f2
  have hWs : s.WarmedH U.vm := State.WarmedH.trans hW0 hW
  have hcl : s.vm.findClass cls = some ce.cls := by
    have h9 := hO.cls
    rw [hvm] at h9
    exact h9
  have hall : s.sameButNew ({ U with vm := s.vm } : State) locs mc ms := by
    subst hA
    obtain ⟨e1, e2⟩ := hsame
    rw [State.setFrames_setFrames] at e1
    have h2 : (T.setVm s.vm).sameButNew ({ U with vm := s.vm } : State) [] (0 + 1) (0 + 6) := ⟨e1, e2⟩
    have h3 := X.same.trans h2
    rw [List.append_nil] at h3
    exact h3.mono hc hs
  refine ⟨U, ?_, .threw T.heap.size, hrun, hend, Or.inr ⟨T.heap.size, rfl, cls, ce, locs, hx U hWs.alike f1 (fun q hq => f2 q hq (fun z hz => nomatch hz)), hce, hO.vm, hcl, hWs, hall, hf⟩⟩
  refine st1 _ ?_
  show Steps p.tables e below (T1.setTop { method := m, pc := pc + 3, locals := ls, stack := .ref T.heap.size :: rest, locked := none }) _
  jvm_step X₁.here [X₁.here.top, hexec, d3', Value.category]
  exact X₁.ldcStringW hexec (own := own) (text := text) (index := is) (a := sa) hown' hstr'.1 hstr'.2
    (g := { method := m, pc := pc + 4, locals := ls, stack := .ref T.heap.size :: .ref T.heap.size :: rest, locked := none }) rfl d4' _ hsteps
end Ends
section Bodies
variable {l : Launch}
theorem vx_ofW {y : MethodName} {ws ws' : List Cond} {rm : Room} {Pc : Array Value → State → Prop} {Qc : Array Value → State → Outcome → State → Prop} {XC : String → State → State → Prop} {mc ms : Nat} {free : Addr → Prop} {cc : ByteArray} {maxL : Nat} {ret : Option FieldType}
    (hy : plainName y.cls = true) (hw : ws = Cond.code y cc maxL ret :: ws')
    (body : ∀ p e s m args below meth c s₁, BodyLoose p l y (headSpec ws rm) cc maxL ret e s m args below meth c s₁ → c.maxLocals = maxL → (∀ x ∈ c.exceptionTable.toList, False) → Pc args s →
      W p l e (headSpec ws rm).room s m args below meth c s.heap [] 0 0 (vx_MQ below Qc XC args s mc ms free) (entryFrame m args maxL)) : vx_Met l y ws rm Pc Qc XC mc ms free := by
  refine MetFree.of_bodyS (code := cc) (maxLocals := maxL) (ret := ret) hy ?_ ?_
  · intro args s m h hn
    obtain ⟨meth, c, h1, h2, h3, h4, h5, h6, -, -⟩ := Cond.code_spec hn (atoms_spec (ws := ws) h _ (by rw [hw]; exact List.mem_cons_self))
    exact ⟨meth, c, h1, h2, h3, h4, h5, h6⟩
  · intro p e s m args below meth c s₁ B hml hP _
    have hh0 : s₁.heap = s.heap := by rw [B.state]; rfl
    have ht : ∀ x ∈ c.exceptionTable.toList, False := by
      obtain ⟨meth9, c9, h1, h2, -, -, -, -, h7, -⟩ := Cond.code_spec B.named (atoms_spec (ws := ws) B.pre _ (by rw [hw]; exact List.mem_cons_self))
      cases Option.some.inj (h1.symm.trans B.method)
      cases Option.some.inj (h2.symm.trans (Stand.of_body B).code)
      intro x hx
      rw [Array.isEmpty_iff.mp h7] at hx
      cases hx
    obtain ⟨t, a1, o, b1, b2, b3⟩ := body p e s m args below meth c s₁ B hml ht hP s₁ hh0 (Stand.of_body B)
    exact ⟨t, o, a1, b1, b2, b3⟩
/-- the table of a body with handlers -/
theorem vx_table {p : Program} {x y : MethodName} {S : Spec} {cc bytes : ByteArray} {maxL maxL' : Nat} {ret ret' : Option FieldType} {e : Env} {s s₁ : State} {m : MethodId} {args : Array Value} {below : List Frame} {meth : Method} {c : Code} {hh : List (Nat × Nat × Nat × Nat)}
    (B : BodyLoose p l y S cc maxL ret e s m args below meth c s₁) (h : (Cond.codeWith y bytes maxL' ret' hh).before args s = true) : c.exceptionTable.toList = tableOf hh := by
  obtain ⟨m9, meth9, c9, hn9, h1, h2, -, -, h6, -⟩ := Cond.codeWith_spec h
  cases Option.some.inj (hn9.symm.trans B.named)
  cases Option.some.inj (h1.symm.trans B.method)
  cases Option.some.inj (h2.symm.trans (Stand.of_body B).code)
  rw [← h6, table_eq]
end Bodies
end VXA
/-! ===== END ===== -/
/-! ===== BEGIN a static call of a method with an exception table ===== -/
section VXS
variable {p : Program} {l : Launch} {e : Env} {R : Room} {s : State} {m : MethodId} {args : Array Value} {below : List Frame} {meth : Method} {c : Code} {T : State} {H : Heap} {locs : List Loc} {cells slots : Nat}
abbrev vx_CSW (R : Room) (s : State) (args : Array Value) (own : String) (index : Nat) (y : MethodName) (bytes : ByteArray) (maxL : Nat) (ret : Option FieldType) (hh : List (Nat × Nat × Nat × Nat)) (ws : List Cond) (rm : Room) (mc ms n : Nat) : Prop :=
  (rm.cells = mc ∧ rm.slots = ms ∧ rm.frames + 1 ≤ R.frames ∧ 8 + (maxL + 11) + rm.locals ≤ R.locals ∧ (∀ w ∈ ws, ∀ (a' : Array Value) (U : State), s.WarmedH U.vm → w.before a' U = true) ∧ Cond.codeWith y bytes maxL ret hh ∈ ws) ∧
  (Cond.codeWith y bytes maxL ret hh).before args s = true ∧ (Cond.initialized y.cls).before args s = true ∧ (y.cls ≠ "java/lang/invoke/MethodHandle" ∧ y.cls ≠ "java/lang/invoke/VarHandle") ∧
  (∀ sig, parseMethodDescriptor y.desc = some sig → n = sig.parameters.length) ∧ (Cond.methodLink own index y).before args s = true ∧ (Cond.static y).before args s = true
theorem vx_cwSW {own : String} {index maxL mc ms : Nat} {y : MethodName} {bytes : ByteArray} {ret : Option FieldType} {hh : List (Nat × Nat × Nat × Nat)} {Ts ws ws' : List Cond} {rm : Room} (n : Nat) (ht : ∀ w ∈ Ts, w.before args s = true) (hT : GoodIn Ts (va_wsS own index y ws)) (hw : ws = Cond.codeWith y bytes maxL ret hh :: ws') (hrc : rm.cells = mc) (hrs : rm.slots = ms)
    (hd : y.cls ≠ "java/lang/invoke/MethodHandle" ∧ y.cls ≠ "java/lang/invoke/VarHandle" ∧ (parseMethodDescriptor y.desc).map (fun d => d.parameters.length) = some n) (hR : rm.frames + 1 ≤ R.frames ∧ 8 + (maxL + 11) + rm.locals ≤ R.locals) :
    vx_CSW R s args own index y bytes maxL ret hh ws rm mc ms n := by
  have ok : ∀ w ∈ va_wsS own index y ws, w.before args s = true := fun w h => ht w (hT w h).1
  have hG : GoodIn Ts ws := fun w h => hT w (by unfold va_wsS; exact List.mem_append_right _ h)
  have hc : Cond.codeWith y bytes maxL ret hh ∈ ws := by rw [hw]; exact List.mem_cons_self
  refine ⟨⟨hrc, hrs, hR.1, hR.2, pay_in ht hG, hc⟩, ht _ (hG _ hc).1, ok _ (by simp [va_wsS]), ⟨hd.1, hd.2.1⟩, fun sig h => ?_, ok _ (by simp [va_wsS]), ok _ (by simp [va_wsS])⟩
  have h2 := hd.2.2
  rw [h] at h2
  exact (Option.some.inj h2).symm
theorem vx_callSW (X : Stand p l e R s m args below meth c T locs cells slots) (hexec : p.tables.exec = Jvm.exec) {own : String} {index : Nat} {y : MethodName} {bytes : ByteArray} {maxL : Nat} {ret : Option FieldType} {hh : List (Nat × Nat × Nat × Nat)}
    (hown : s.vm.findClass own = some m.cls) (hlink : (Cond.methodLink own index y).before args s = true) (hstat : (Cond.static y).before args s = true) (hinit : (Cond.initialized y.cls).before args s = true)
    (hcode : (Cond.codeWith y bytes maxL ret hh).before args s = true) (hy : y.cls ≠ "java/lang/invoke/MethodHandle" ∧ y.cls ≠ "java/lang/invoke/VarHandle")
    {W9 : Nat} {Pre : Pt → Array Value → Prop} {Post : Pt → Array Value → Option Value → Pt → Prop} (hK : Back l R p e below s args y 3 W9 Pre Post)
    {g : JFrame} (hg : g.method = m) (hsize : g.locals.size = c.maxLocals) {argsL rest : List Value} (hlen : ∀ sig, parseMethodDescriptor y.desc = some sig → argsL.length = sig.parameters.length)
    (hstack : g.stack = argsL.reverse ++ rest) (hW : 2 * g.monitorRoom + (rest.map fun v => v.category).sum ≤ W9) (hdg : decode c.code g.pc = .ok (.invokestatic index, 3))
    (hpre : ∀ vm₁, s.WarmedH vm₁ → Pre ⟨T.setVm vm₁, locs, cells, slots⟩ argsL.toArray) :
    ∃ (v : Option Value) (vm₁ : Vm) (B : Pt), s.WarmedH vm₁ ∧ Stand p l e R s m args below meth c B.U B.locs B.cells B.slots ∧ Post ⟨T.setVm vm₁, locs, cells, slots⟩ argsL.toArray v B ∧
      ∀ target, Steps p.tables e below (B.U.setTop { g with pc := g.pc + 3, stack := v.toList ++ rest }) target → Steps p.tables e below (T.setTop g) target := by
  obtain ⟨mk, methM, cM, hnamed, hmethM, -, -, -, -, -, -, hsigM⟩ := Cond.codeWith_spec hcode
  have hstatic : methM.isStatic = true := Cond.static_spec hnamed hmethM hstat
  obtain ⟨kP, hkP, -⟩ := className_of_methodNamed hnamed
  have hinitP : kP.init = .initialized := Cond.initialized_spec (findClass_of_methodNamed hnamed) hkP hinit
  obtain ⟨vm₁, X₁, hstep₁⟩ := X.invokestatic hexec hown hlink hnamed hmethM hstatic hkP hinitP hy (g := g) hg (argsL := argsL) (rest := rest) (hlen _ hsigM) hstack hdg
  obtain ⟨v, B, X', hpost, hsteps⟩ := hK m meth c ⟨T.setVm vm₁, locs, cells, slots⟩ { g with stack := rest } (.invokestatic index) mk argsL.toArray X₁ hg hsize hdg hW (X₁.named hnamed) (hpre vm₁ X₁.warmed)
  exact ⟨v, vm₁, B, X₁.warmed, X', hpost, fun target h => hstep₁ _ fun acts => by rw [doInvoke_state]; exact hsteps.trans h⟩
theorem vx_runSW {y : MethodName} {bytes cc : ByteArray} {maxL nL mc ms n index : Nat} {ret : Option FieldType} {hh : List (Nat × Nat × Nat × Nat)} {ws : List Cond} {rm : Room} {Pc : Array Value → State → Prop} {Qc : Array Value → State → Outcome → State → Prop} {free : Addr → Prop} {Ts : List Cond} {own : String} {As rest : List Value} {g : JFrame}
    (S : CallFix p m c cc nL s args Ts own) (hM : Met l y ws rm Pc Qc mc ms free) (cw : vx_CSW R s args own index y bytes maxL ret hh ws rm mc ms n) (hp : PreS s H Pc As)
    (hg : g.method = m) (hn : As.length = n) (hsize : g.locals.size = nL) (hstack : g.stack = As.reverse ++ rest) (hW : 2 * g.monitorRoom + (rest.map fun v => v.category).sum ≤ 8) (hdg : decode cc g.pc = .ok (.invokestatic index, 3)) (hf : cells + mc ≤ R.cells ∧ slots + ms ≤ R.slots) :
    va_Run p l e R s m args below meth c H locs cells slots mc ms g rest (Qc As.toArray) (free) := by
  obtain ⟨⟨hrc, hrs, hfr, hlo, hws, hcw⟩, hcode, hini, hy, hlen, hl, hstt⟩ := cw
  have hK : Back l R p e below s args y 3 8 (PreOf R mc ms Pc) (PostOf Qc mc ms free) := va_backW (hh := hh) (bytes := bytes) (maxL := maxL) (ret := ret) hM hp.1 hrc hrs hfr hlo hws hcw (fun a' U hW => word_at hW (Or.inl (by first | rfl | simp [Cond.onTables, Cond.keeps, Cond.steady])) hini)
  obtain ⟨hx, hb, hml, ho, -⟩ := S
  intro T hT X
  obtain ⟨v, vm₁, ⟨U', l2, c2, s2⟩, hW₁, X', ⟨g', mk, t, L, e1, e2, hq, h1, hL, h2, h3⟩, st⟩ := vx_callSW X hx (hh := hh) (bytes := bytes) (maxL := maxL) (ret := ret) ho hl hstt hini hcode hy hK hg (hsize.trans hml.symm) (argsL := As) (rest := rest) (fun sig h => hn.trans (hlen sig h)) hstack hW (by rw [hb]; exact hdg)
    (fun vm₁ hW₁ => ⟨hf.1, hf.2, hp.2 (T.setVm vm₁) hT hW₁⟩)
  dsimp only [Pt.U, Pt.locs, Pt.cells, Pt.slots] at X' e1 e2 h1 h2 h3 st
  subst h1; subst h2; subst h3
  exact ⟨v, (T.setVm vm₁).calling g' mk As.toArray, t, U', L, hT, X', hL, e1, e2, hq, st⟩
/-- not caught here, past rows that name other classes: it goes on to the caller -/
theorem vx_outP {p : Program} {l : Launch} {e : Env} {R : Room} {s : State} {m : MethodId} {args : Array Value} {below : List Frame} {meth : Method} {c : Code} {H : Heap} {locs : List Loc} {cells slots : Nat} {free : Addr → Prop} {ls : Array Slot} {rest : List Value} {Qc : Array Value → State → Outcome → State → Prop} {XC : String → State → State → Prop}
    {pc : Nat} {own E : String} {ce : Cell} {q : Addr} {mc ms : Nat} (hown : s.vm.findClass own = some m.cls) (hlocks : meth.locks = false)
    (hpass : ∀ z ∈ c.exceptionTable.toList, covers z pc = false ∨ (z.catchType ≠ 0 ∧ ∃ nm : String, (Cond.classLink own z.catchType nm).before args s = true ∧ va_Nc E nm s)) (hcell : H[q]? = some ce) (hv : ce.vm = .none) (hcl : s.vm.findClass E = some ce.cls)
    (hx : ∀ t : State, t.heap = H → s.vm.Alike t.vm → XC E s t) (hf : ∀ z ∈ locs, free z.base) (hc : cells ≤ mc) (hs : slots ≤ ms) :
    vx_W p l e R s m args below meth c H locs cells slots (vx_MQ below Qc XC args s mc ms free) (F0 m pc ls rest) q := by
  intro T hT X
  have hpl : e.platform.magicAccessors = ({} : Platform).magicAccessors := by rw [X.admits.platform]
  obtain ⟨vm', hW', X', st⟩ := X.outThrough hlocks q (g := F0 m pc ls rest) rfl rfl rfl (cell := ce) (by rw [hT]; exact hcell) (by rw [hv]; rfl)
    (by obtain ⟨k9, h9, -⟩ := Vm.findClass_spec hcl; exact ⟨k9, h9⟩) (fun z hz => by
      rcases hpass z hz with h | ⟨hz0, nm, hl1, hn1⟩
      · exact Or.inl h
      · obtain ⟨c6, hc6, hcl6⟩ := Cond.classLink_spec hown hl1 e.platform hpl
        obtain ⟨a8, b8, h1, h2, h3⟩ := hn1
        cases Option.some.inj (h1.symm.trans hcl)
        cases Option.some.inj (h2.symm.trans hc6)
        exact Or.inr ⟨hz0, _, hcl6, h3⟩)
  obtain ⟨g₀, hfr⟩ := X'.frames_eq
  have hcell9 : ((T.setVm vm').setFrames (.throwing q :: below)).heap[q]? = some ce := by
    show T.heap[q]? = some ce
    rw [hT]; exact hcell
  have hend : Ended ((T.setVm vm').setFrames (.throwing q :: below)) below (.threw q) := State.frames_setFrames _ (State.cur_lt_of_frames hfr)
  refine ⟨(T.setVm vm').setFrames (.throwing q :: below), ?_, .threw q, X'.here.running, hend, Or.inr ⟨q, rfl, E, ce, locs, hx _ hT (X'.ends _).1.alike, hcell9, hv, hcl, (X'.ends _).1, (X'.ends _).2.mono hc hs, hf⟩⟩
  rw [X.pushThrowing_eq]
  exact st
/-- a thing of a world lies in the heap -/
theorem vx_lt {D : va_G} {cl : List vw_C} {ws : va_W} {H1 : Heap} (h : va_P D cl ws H1) {k : Nat} {q : Nat × va_E} (hk : ws[k]? = some q) : q.1 < H1.size := (h k q hk).lt
end VXS
/-! ===== END ===== -/
/-! ===== BEGIN methods with a table of their own: called by a name, returning or throwing ===== -/
section VXH
/-! vx_backW, vx_callVX, vx_callSX, vx_callVW, vx_runVW, vx_runVX, vx_runSX, vx_ofWH follow the same proofs as their sisters above (Free/Laws.lean, Shelf42/LK1.lean); vx_outP calls Shelf42/NT130.lean (outThrough). -/
section
variable {l : Launch} {R : Room} {p : Program} {e : Env} {below : List Frame} {s : State} {sargs : Array Value} {y : MethodName} {len W9 : Nat}
theorem vx_backW {ws : List Cond} {rm : Room} {Pc : Array Value → State → Prop} {Qc : Array Value → State → Outcome → State → Prop} {XC : String → State → State → Prop} {mc ms : Nat} {free : Addr → Prop} {bytes : ByteArray} {maxL : Nat} {ret : Option FieldType} {hh : List (Nat × Nat × Nat × Nat)}
    (hM : vx_Met l y ws rm Pc Qc XC mc ms free) (hblind : FrameBlind Pc) (hrc : rm.cells = mc) (hrs : rm.slots = ms)
    (hframes : rm.frames + 1 ≤ R.frames) (hlocals : W9 + (maxL + 11) + rm.locals ≤ R.locals)
    (hws : ∀ w ∈ ws, ∀ a' U, s.WarmedH U.vm → w.before a' U = true) (hcode : Cond.codeWith y bytes maxL ret hh ∈ ws) (hinit : ∀ a' U, s.WarmedH U.vm → (Cond.initialized y.cls).before a' U = true) :
    vx_Back l R p e below s sargs y len W9 (PreOf R mc ms Pc) (PostOf Qc mc ms free) (vx_Post XC mc ms free) := by
  intro m meth c A g ig mk a X hg hsize hdg hW hn hp
  have h1 : (headSpec ws rm).pre.before a A.U = true := atoms_intro fun w hw => hws w hw _ _ X.warmed
  have h2 : (Cond.codeWith y bytes maxL ret hh).before a A.U = true := hws _ hcode _ _ X.warmed
  have h3 : (Cond.initialized y.cls).before a A.U = true := hinit _ _ X.warmed
  have h4 : A.cells + (headSpec ws rm).room.cells ≤ R.cells := by rw [show (headSpec ws rm).room.cells = mc from hrc]; exact hp.1
  have h5 : A.slots + (headSpec ws rm).room.slots ≤ R.slots := by rw [show (headSpec ws rm).room.slots = ms from hrs]; exact hp.2.1
  have hPc : Pc a (A.U.calling g mk a) := hblind _ _ _ _ hp.2.2
  obtain ⟨U, Ls, c0, s0⟩ := A
  dsimp only [Pt.U, Pt.locs, Pt.cells, Pt.slots] at h1 h2 h3 h4 h5 X hn hPc ⊢
  obtain ⟨m9, methY, cY, hn9, hmY, hcY, -, hlY, -⟩ := Cond.codeWith_spec h2
  cases Option.some.inj (hn9.symm.trans hn)
  obtain ⟨kY, hkY, -⟩ := className_of_methodNamed hn
  have hinitY : kY.init = .initialized := Cond.initialized_spec (findClass_of_methodNamed hn) hkY h3
  have h : At U g.method c below := by rw [hg]; exact X.here
  have hlocals9 : W9 + (maxL + 11) + (headSpec ws rm).room.locals ≤ R.locals := hlocals
  have happ : (headSpec ws rm).appliesLoose y e.platform (U.calling g mk a) = true :=
    Spec.appliesLoose_calling (g := g) h hdg hn hkY hinitY
      (X.room_calling (g := g) (R' := (headSpec ws rm).room) hsize hmY hcY hframes (by rw [hlY]; omega) h4 h5) h1
  obtain ⟨mid, hmid⟩ := h.above
  have hfr : (U.setTop g).frames = (.java g :: mid) ++ below := by rw [State.frames_setTop' g h.top, hmid]; rfl
  obtain ⟨o, s₂, hsteps, -, hend, hq⟩ := Steps.callFree hM p X.admits X.cas X.clock (acts := []) hfr happ hPc trivial
  have hq' : vx_Q Qc XC mc ms free a (U.calling g mk a) o s₂ := hq
  rw [State.frames_setTop' g h.top] at hend
  obtain ⟨g₀, hg0⟩ := Option.isSome_iff_exists.mp h.top
  obtain ⟨r, hr⟩ := State.topJava?_eq_some.mp hg0
  have hr' : (({ U with heap := s₂.heap, slotsUsed := s₂.slotsUsed } : State).setVm s₂.vm).frames = .java g₀ :: r := hr
  rcases hq' with ⟨hqc, L, hfe, hL⟩ | ⟨q, rfl, E, ce, L, hx, hce, hcv, hcl, hW₂, hsm, hL⟩
  · obtain ⟨⟨v, rfl⟩, hW₂, e2, q2, q3, q4, q5, q6⟩ := id hfe
    have e3 : s₂ = ({ (U.calling g mk a).setFrames s₂.frames with heap := s₂.heap, slotsUsed := s₂.slotsUsed } : State).setVm s₂.vm := by
      have : s₂ = ({ s₂ with vm := (U.calling g mk a).vm } : State).setVm s₂.vm := rfl
      rw [e2] at this
      exact this
    obtain ⟨c₂, i₂, len₂, hc₂, hd₂, hf₂⟩ := hend
    have hW' : U.WarmedH s₂.vm := hW₂
    have hcc : c₂ = c := by
      have h1 : s₂.code? g.method = U.code? g.method := by
        rw [State.code?_eq, State.code?_eq, hW'.alike.method?]
      exact Option.some.inj (hc₂.symm.trans (h1.trans h.code))
    subst hcc
    have hlen : len₂ = len := by rw [hdg] at hd₂; cases hd₂; rfl
    subst hlen
    have hs₂ : s₂ = (({ U with heap := s₂.heap, slotsUsed := s₂.slotsUsed } : State).setVm s₂.vm).setTop { g with pc := g.pc + len₂, stack := v.toList ++ g.stack } := by
      refine e3.trans ?_
      rw [hf₂, State.calling_eq h.top, State.setFrames_setFrames, State.setTop_of_frames _ hr', hr]
      rfl
    have hsame : U.sameButNew ({ U with heap := s₂.heap, slotsUsed := s₂.slotsUsed } : State) L mc ms := by
      refine ⟨?_, q2, q3, q4, q5, q6⟩
      obtain ⟨t, ht, -⟩ := State.frames_cons hr
      show ({ U with heap := s₂.heap, slotsUsed := s₂.slotsUsed } : State) = { U.setFrames U.frames with heap := s₂.heap, slotsUsed := s₂.slotsUsed }
      rw [State.setFrames_self ht]
    subst hg
    refine Or.inl ⟨v, ⟨(({ U with heap := s₂.heap, slotsUsed := s₂.slotsUsed } : State).setVm s₂.vm), Ls ++ L, c0 + mc, s0 + ms⟩,
      ⟨X.admits, X.cas, X.clock, X.frames, X.room, X.hears, X.method, X.code, (X.here.setHeapUsed s₂.heap s₂.slotsUsed).setVm hW'.alike, X.tail, State.WarmedH.trans X.warmed hW', X.limits, X.bytes, X.same.trans (hsame.setVm s.vm)⟩,
      ⟨g, mk, s₂, L, rfl, rfl, hqc, rfl, hL, rfl, rfl⟩, ?_⟩
    show Steps p.tables e below _ ((({ U with heap := s₂.heap, slotsUsed := s₂.slotsUsed } : State).setVm s₂.vm).setTop { g with pc := g.pc + len₂, stack := v.toList ++ g.stack })
    rw [← hs₂]
    exact hsteps
  · obtain ⟨e2, q2, q3, q4, q5, q6⟩ := id hsm
    have e3 : s₂ = ({ (U.calling g mk a).setFrames s₂.frames with heap := s₂.heap, slotsUsed := s₂.slotsUsed } : State).setVm s₂.vm := by
      have : s₂ = ({ s₂ with vm := (U.calling g mk a).vm } : State).setVm s₂.vm := rfl
      rw [e2] at this
      exact this
    have hf₂ : s₂.frames = .throwing q :: .java g :: U.frames.tail := hend
    have hW' : U.WarmedH s₂.vm := hW₂
    have hs₂ : s₂ = ((({ U with heap := s₂.heap, slotsUsed := s₂.slotsUsed } : State).setVm s₂.vm).setTop g).pushFrame (.throwing q) := by
      refine e3.trans ?_
      rw [hf₂, State.calling_eq h.top, State.setFrames_setFrames, State.pushFrame, State.frames_setTop _ hr', State.setTop_of_frames _ hr', State.setFrames_setFrames, hr]
      rfl
    have hsame : U.sameButNew ({ U with heap := s₂.heap, slotsUsed := s₂.slotsUsed } : State) L mc ms := by
      refine ⟨?_, q2, q3, q4, q5, q6⟩
      obtain ⟨t, ht, -⟩ := State.frames_cons hr
      show ({ U with heap := s₂.heap, slotsUsed := s₂.slotsUsed } : State) = { U.setFrames U.frames with heap := s₂.heap, slotsUsed := s₂.slotsUsed }
      rw [State.setFrames_self ht]
    subst hg
    refine Or.inr ⟨q, ⟨(({ U with heap := s₂.heap, slotsUsed := s₂.slotsUsed } : State).setVm s₂.vm), Ls ++ L, c0 + mc, s0 + ms⟩,
      ⟨X.admits, X.cas, X.clock, X.frames, X.room, X.hears, X.method, X.code, (X.here.setHeapUsed s₂.heap s₂.slotsUsed).setVm hW'.alike, X.tail, State.WarmedH.trans X.warmed hW', X.limits, X.bytes, X.same.trans (hsame.setVm s.vm)⟩,
      ⟨g, mk, s₂, L, E, ce, rfl, rfl, hx, hce, hcv, hcl, rfl, hL, rfl, rfl⟩, ?_⟩
    show Steps p.tables e below _ (((({ U with heap := s₂.heap, slotsUsed := s₂.slotsUsed } : State).setVm s₂.vm).setTop g).pushFrame (.throwing q))
    rw [← hs₂]
    exact hsteps
end
variable {p : Program} {l : Launch} {e : Env} {R : Room} {s : State} {m : MethodId} {args : Array Value} {below : List Frame} {meth : Method} {c : Code} {T : State} {H : Heap} {locs : List Loc} {cells slots : Nat}
theorem vx_callVX (X : Stand p l e R s m args below meth c T locs cells slots) (hexec : p.tables.exec = Jvm.exec) {own C : String} {index : Nat} {y : MethodName} {bytes : ByteArray} {maxL : Nat} {ret : Option FieldType} {hh : List (Nat × Nat × Nat × Nat)}
    (hown : s.vm.findClass own = some m.cls) (hlink : (Cond.methodLink own index y).before args s = true) (hinst : (Cond.instanceMethod y).before args s = true) (hsel : (Cond.selects C y y).before args s = true)
    (hcode : (Cond.codeWith y bytes maxL ret hh).before args s = true) (hy : y.cls ≠ "java/lang/invoke/MethodHandle" ∧ y.cls ≠ "java/lang/invoke/VarHandle")
    {W9 : Nat} {Pre : Pt → Array Value → Prop} {Post : Pt → Array Value → Option Value → Pt → Prop} {PostX : Pt → Array Value → Addr → Pt → Prop} (hK : vx_Back l R p e below s args y 3 W9 Pre Post PostX)
    {b : Addr} {cellB : Cell} (hcell : T.heap[b]? = some cellB) (hobj : cellB.vm.isStatics = false) (hcls : s.vm.findClass C = some cellB.cls)
    {g : JFrame} (hg : g.method = m) (hsize : g.locals.size = c.maxLocals) {argsL rest : List Value} (hlen : ∀ sig, parseMethodDescriptor y.desc = some sig → argsL.length = sig.parameters.length)
    (hstack : g.stack = argsL.reverse ++ .ref b :: rest) (hW : 2 * g.monitorRoom + (rest.map fun v => v.category).sum ≤ W9) (hdg : decode c.code g.pc = .ok (.invokevirtual index, 3))
    (hpre : ∀ vm₁, s.WarmedH vm₁ → Pre ⟨T.setVm vm₁, locs, cells, slots⟩ (Value.ref b :: argsL).toArray) :
    (∃ (v : Option Value) (vm₁ : Vm) (B : Pt), s.WarmedH vm₁ ∧ Stand p l e R s m args below meth c B.U B.locs B.cells B.slots ∧ Post ⟨T.setVm vm₁, locs, cells, slots⟩ (Value.ref b :: argsL).toArray v B ∧
      ∀ target, Steps p.tables e below (B.U.setTop { g with pc := g.pc + 3, stack := v.toList ++ rest }) target → Steps p.tables e below (T.setTop g) target) ∨
    (∃ (q : Addr) (vm₁ : Vm) (B : Pt), s.WarmedH vm₁ ∧ Stand p l e R s m args below meth c B.U B.locs B.cells B.slots ∧ PostX ⟨T.setVm vm₁, locs, cells, slots⟩ (Value.ref b :: argsL).toArray q B ∧
      Steps p.tables e below (T.setTop g) ((B.U.setTop { g with stack := rest }).pushFrame (.throwing q))) := by
  obtain ⟨mk, methM, hnamed, hmethM, hstM, habM⟩ := Cond.instanceMethod_spec hinst
  obtain ⟨m8, methM', cM, hn8, hmethM', -, -, -, -, -, -, hsigM⟩ := Cond.codeWith_spec hcode
  cases Option.some.inj (hn8.symm.trans hnamed)
  cases hmethM.symm.trans hmethM'
  obtain ⟨c2, r2, m2, q1, q2, q3, q4, kP, hkP, hkPi⟩ := Cond.selects_spec hsel
  cases hcls.symm.trans q1
  cases (State.methodFound?_of_named hnamed hy).symm.trans q2
  cases hnamed.symm.trans q3
  have hselP : selectMethod e.platform s.vm cellB.cls mk = .method mk := by rw [Launch.admits_selectMethod X.admits]; exact q4
  obtain ⟨vm₁, X₁, hstep₁⟩ := X.invokevirtual hexec hown hlink hnamed hmethM hstM hkP hkPi hy (a := b) (cell := cellB) hcell
    (fun z h => by rw [h] at hobj; cases hobj) hselP hmethM habM hkP hkPi (g := g) hg (argsL := argsL) (rest := rest) (hlen _ hsigM) hstack hdg
  rcases hK m meth c ⟨T.setVm vm₁, locs, cells, slots⟩ { g with stack := rest } (.invokevirtual index) mk (Value.ref b :: argsL).toArray X₁ hg hsize hdg hW (X₁.named hnamed) (hpre vm₁ X₁.warmed) with ⟨v, B, X', hpost, hsteps⟩ | ⟨q, B, X', hpost, hsteps⟩
  · exact Or.inl ⟨v, vm₁, B, X₁.warmed, X', hpost, fun target h => hstep₁ _ fun acts => by rw [doInvoke_state]; exact hsteps.trans h⟩
  · exact Or.inr ⟨q, vm₁, B, X₁.warmed, X', hpost, hstep₁ _ fun acts => by rw [doInvoke_state]; exact hsteps⟩
theorem vx_callSX (X : Stand p l e R s m args below meth c T locs cells slots) (hexec : p.tables.exec = Jvm.exec) {own : String} {index : Nat} {y : MethodName} {bytes : ByteArray} {maxL : Nat} {ret : Option FieldType} {hh : List (Nat × Nat × Nat × Nat)}
    (hown : s.vm.findClass own = some m.cls) (hlink : (Cond.methodLink own index y).before args s = true) (hstat : (Cond.static y).before args s = true) (hinit : (Cond.initialized y.cls).before args s = true)
    (hcode : (Cond.codeWith y bytes maxL ret hh).before args s = true) (hy : y.cls ≠ "java/lang/invoke/MethodHandle" ∧ y.cls ≠ "java/lang/invoke/VarHandle")
    {W9 : Nat} {Pre : Pt → Array Value → Prop} {Post : Pt → Array Value → Option Value → Pt → Prop} {PostX : Pt → Array Value → Addr → Pt → Prop} (hK : vx_Back l R p e below s args y 3 W9 Pre Post PostX)
    {g : JFrame} (hg : g.method = m) (hsize : g.locals.size = c.maxLocals) {argsL rest : List Value} (hlen : ∀ sig, parseMethodDescriptor y.desc = some sig → argsL.length = sig.parameters.length)
    (hstack : g.stack = argsL.reverse ++ rest) (hW : 2 * g.monitorRoom + (rest.map fun v => v.category).sum ≤ W9) (hdg : decode c.code g.pc = .ok (.invokestatic index, 3))
    (hpre : ∀ vm₁, s.WarmedH vm₁ → Pre ⟨T.setVm vm₁, locs, cells, slots⟩ argsL.toArray) :
    (∃ (v : Option Value) (vm₁ : Vm) (B : Pt), s.WarmedH vm₁ ∧ Stand p l e R s m args below meth c B.U B.locs B.cells B.slots ∧ Post ⟨T.setVm vm₁, locs, cells, slots⟩ argsL.toArray v B ∧
      ∀ target, Steps p.tables e below (B.U.setTop { g with pc := g.pc + 3, stack := v.toList ++ rest }) target → Steps p.tables e below (T.setTop g) target) ∨
    (∃ (q : Addr) (vm₁ : Vm) (B : Pt), s.WarmedH vm₁ ∧ Stand p l e R s m args below meth c B.U B.locs B.cells B.slots ∧ PostX ⟨T.setVm vm₁, locs, cells, slots⟩ argsL.toArray q B ∧
      Steps p.tables e below (T.setTop g) ((B.U.setTop { g with stack := rest }).pushFrame (.throwing q))) := by
  obtain ⟨mk, methM, cM, hnamed, hmethM, -, -, -, -, -, -, hsigM⟩ := Cond.codeWith_spec hcode
  have hstatic : methM.isStatic = true := Cond.static_spec hnamed hmethM hstat
  obtain ⟨kP, hkP, -⟩ := className_of_methodNamed hnamed
  have hinitP : kP.init = .initialized := Cond.initialized_spec (findClass_of_methodNamed hnamed) hkP hinit
  obtain ⟨vm₁, X₁, hstep₁⟩ := X.invokestatic hexec hown hlink hnamed hmethM hstatic hkP hinitP hy (g := g) hg (argsL := argsL) (rest := rest) (hlen _ hsigM) hstack hdg
  rcases hK m meth c ⟨T.setVm vm₁, locs, cells, slots⟩ { g with stack := rest } (.invokestatic index) mk argsL.toArray X₁ hg hsize hdg hW (X₁.named hnamed) (hpre vm₁ X₁.warmed) with ⟨v, B, X', hpost, hsteps⟩ | ⟨q, B, X', hpost, hsteps⟩
  · exact Or.inl ⟨v, vm₁, B, X₁.warmed, X', hpost, fun target h => hstep₁ _ fun acts => by rw [doInvoke_state]; exact hsteps.trans h⟩
  · exact Or.inr ⟨q, vm₁, B, X₁.warmed, X', hpost, hstep₁ _ fun acts => by rw [doInvoke_state]; exact hsteps⟩
theorem vx_callVW (X : Stand p l e R s m args below meth c T locs cells slots) (hexec : p.tables.exec = Jvm.exec) {own C : String} {index : Nat} {y : MethodName} {bytes : ByteArray} {maxL : Nat} {ret : Option FieldType} {hh : List (Nat × Nat × Nat × Nat)}
    (hown : s.vm.findClass own = some m.cls) (hlink : (Cond.methodLink own index y).before args s = true) (hinst : (Cond.instanceMethod y).before args s = true) (hsel : (Cond.selects C y y).before args s = true)
    (hcode : (Cond.codeWith y bytes maxL ret hh).before args s = true) (hy : y.cls ≠ "java/lang/invoke/MethodHandle" ∧ y.cls ≠ "java/lang/invoke/VarHandle")
    {W9 : Nat} {Pre : Pt → Array Value → Prop} {Post : Pt → Array Value → Option Value → Pt → Prop} (hK : Back l R p e below s args y 3 W9 Pre Post)
    {b : Addr} {cellB : Cell} (hcell : T.heap[b]? = some cellB) (hobj : cellB.vm.isStatics = false) (hcls : s.vm.findClass C = some cellB.cls)
    {g : JFrame} (hg : g.method = m) (hsize : g.locals.size = c.maxLocals) {argsL rest : List Value} (hlen : ∀ sig, parseMethodDescriptor y.desc = some sig → argsL.length = sig.parameters.length)
    (hstack : g.stack = argsL.reverse ++ .ref b :: rest) (hW : 2 * g.monitorRoom + (rest.map fun v => v.category).sum ≤ W9) (hdg : decode c.code g.pc = .ok (.invokevirtual index, 3))
    (hpre : ∀ vm₁, s.WarmedH vm₁ → Pre ⟨T.setVm vm₁, locs, cells, slots⟩ (Value.ref b :: argsL).toArray) :
    ∃ (v : Option Value) (vm₁ : Vm) (B : Pt), s.WarmedH vm₁ ∧ Stand p l e R s m args below meth c B.U B.locs B.cells B.slots ∧ Post ⟨T.setVm vm₁, locs, cells, slots⟩ (Value.ref b :: argsL).toArray v B ∧
      ∀ target, Steps p.tables e below (B.U.setTop { g with pc := g.pc + 3, stack := v.toList ++ rest }) target → Steps p.tables e below (T.setTop g) target := by
  obtain ⟨mk, methM, hnamed, hmethM, hstM, habM⟩ := Cond.instanceMethod_spec hinst
  obtain ⟨m8, methM', cM, hn8, hmethM', -, -, -, -, -, -, hsigM⟩ := Cond.codeWith_spec hcode
  cases Option.some.inj (hn8.symm.trans hnamed)
  cases hmethM.symm.trans hmethM'
  obtain ⟨c2, r2, m2, q1, q2, q3, q4, kP, hkP, hkPi⟩ := Cond.selects_spec hsel
  cases hcls.symm.trans q1
  cases (State.methodFound?_of_named hnamed hy).symm.trans q2
  cases hnamed.symm.trans q3
  have hselP : selectMethod e.platform s.vm cellB.cls mk = .method mk := by rw [Launch.admits_selectMethod X.admits]; exact q4
  obtain ⟨vm₁, X₁, hstep₁⟩ := X.invokevirtual hexec hown hlink hnamed hmethM hstM hkP hkPi hy (a := b) (cell := cellB) hcell
    (fun z h => by rw [h] at hobj; cases hobj) hselP hmethM habM hkP hkPi (g := g) hg (argsL := argsL) (rest := rest) (hlen _ hsigM) hstack hdg
  obtain ⟨v, B, X', hpost, hsteps⟩ := hK m meth c ⟨T.setVm vm₁, locs, cells, slots⟩ { g with stack := rest } (.invokevirtual index) mk (Value.ref b :: argsL).toArray X₁ hg hsize hdg hW (X₁.named hnamed) (hpre vm₁ X₁.warmed)
  exact ⟨v, vm₁, B, X₁.warmed, X', hpost, fun target h => hstep₁ _ fun acts => by rw [doInvoke_state]; exact hsteps.trans h⟩
abbrev vx_CVW (R : Room) (s : State) (args : Array Value) (own C : String) (index : Nat) (y : MethodName) (bytes : ByteArray) (maxL : Nat) (ret : Option FieldType) (hh : List (Nat × Nat × Nat × Nat)) (ws : List Cond) (rm : Room) (mc ms n : Nat) : Prop :=
  (rm.cells = mc ∧ rm.slots = ms ∧ rm.frames + 1 ≤ R.frames ∧ 8 + (maxL + 11) + rm.locals ≤ R.locals ∧ (∀ w ∈ ws, ∀ (a' : Array Value) (U : State), s.WarmedH U.vm → w.before a' U = true) ∧ Cond.codeWith y bytes maxL ret hh ∈ ws) ∧
  (Cond.codeWith y bytes maxL ret hh).before args s = true ∧ (Cond.initialized y.cls).before args s = true ∧ (y.cls ≠ "java/lang/invoke/MethodHandle" ∧ y.cls ≠ "java/lang/invoke/VarHandle") ∧
  (∀ sig, parseMethodDescriptor y.desc = some sig → n = sig.parameters.length) ∧ (Cond.methodLink own index y).before args s = true ∧ (Cond.instanceMethod y).before args s = true ∧ (Cond.selects C y y).before args s = true
theorem vx_cwVW {own C : String} {index maxL mc ms : Nat} {y : MethodName} {bytes : ByteArray} {ret : Option FieldType} {hh : List (Nat × Nat × Nat × Nat)} {Ts ws ws' : List Cond} {rm : Room} (n : Nat) (ht : ∀ w ∈ Ts, w.before args s = true) (hT : GoodIn Ts (wsV own index C y ws)) (hw : ws = Cond.codeWith y bytes maxL ret hh :: ws') (hrc : rm.cells = mc) (hrs : rm.slots = ms)
    (hd : y.cls = C ∧ y.cls ≠ "java/lang/invoke/MethodHandle" ∧ y.cls ≠ "java/lang/invoke/VarHandle" ∧ (parseMethodDescriptor y.desc).map (fun d => d.parameters.length) = some n) (hR : rm.frames + 1 ≤ R.frames ∧ 8 + (maxL + 11) + rm.locals ≤ R.locals) :
    vx_CVW R s args own C index y bytes maxL ret hh ws rm mc ms n := by
  obtain ⟨hC, hd⟩ := hd
  subst hC
  have ok : ∀ w ∈ wsV own index y.cls y ws, w.before args s = true := fun w h => ht w (hT w h).1
  have hG : GoodIn Ts ws := fun w h => hT w (by unfold wsV; exact List.mem_append_right _ h)
  have hc : Cond.codeWith y bytes maxL ret hh ∈ ws := by rw [hw]; exact List.mem_cons_self
  refine ⟨⟨hrc, hrs, hR.1, hR.2, pay_in ht hG, hc⟩, ht _ (hG _ hc).1, ok _ (by simp [wsV]), ⟨hd.1, hd.2.1⟩, fun sig h => ?_, ok _ (by simp [wsV]), ok _ (by simp [wsV]), ok _ (by simp [wsV])⟩
  have h2 := hd.2.2
  rw [h] at h2
  exact (Option.some.inj h2).symm
theorem vx_runVW {y : MethodName} {bytes cc : ByteArray} {maxL nL mc ms n index : Nat} {ret : Option FieldType} {hh : List (Nat × Nat × Nat × Nat)} {ws : List Cond} {rm : Room} {Pc : Array Value → State → Prop} {Qc : Array Value → State → Outcome → State → Prop} {free : Addr → Prop} {Ts : List Cond} {own C : String} {b : Addr} {As rest : List Value} {g : JFrame}
    (S : CallFix p m c cc nL s args Ts own) (hM : Met l y ws rm Pc Qc mc ms free) (cw : vx_CVW R s args own C index y bytes maxL ret hh ws rm mc ms n) (hp : PreV s H C b Pc As)
    (hg : g.method = m) (hn : As.length = n) (hsize : g.locals.size = nL) (hstack : g.stack = As.reverse ++ .ref b :: rest) (hW : 2 * g.monitorRoom + (rest.map fun v => v.category).sum ≤ 8) (hdg : decode cc g.pc = .ok (.invokevirtual index, 3)) (hf : cells + mc ≤ R.cells ∧ slots + ms ≤ R.slots) :
    va_Run p l e R s m args below meth c H locs cells slots mc ms g rest (Qc (Value.ref b :: As).toArray) free := by
  obtain ⟨⟨hrc, hrs, hfr, hlo, hws, hcw⟩, hcode, hini, hy, hlen, hl, hin, hse⟩ := cw
  have hK : Back l R p e below s args y 3 8 (PreOf R mc ms Pc) (PostOf Qc mc ms free) := va_backW (hh := hh) (bytes := bytes) (maxL := maxL) (ret := ret) hM hp.1 hrc hrs hfr hlo hws hcw (fun a' U hW => word_at hW (Or.inl (by first | rfl | simp [Cond.onTables, Cond.keeps, Cond.steady])) hini)
  obtain ⟨hx, hb, hml, ho, -⟩ := S
  obtain ⟨-, ⟨cellB, hcB, hoB, hclB⟩, hPc⟩ := hp
  intro T hT X
  obtain ⟨v, vm₁, ⟨U', l2, c2, s2⟩, hW₁, X', ⟨g', mk, t, L, e1, e2, hq, h1, hL, h2, h3⟩, st⟩ := vx_callVW X hx (C := C) (hh := hh) (bytes := bytes) (maxL := maxL) (ret := ret) ho hl hin hse hcode hy hK (by rw [hT]; exact hcB) hoB hclB hg (hsize.trans hml.symm) (argsL := As) (rest := rest) (fun sig h => hn.trans (hlen sig h)) hstack hW (by rw [hb]; exact hdg)
    (fun vm₁ hW₁ => ⟨hf.1, hf.2, hPc (T.setVm vm₁) hT hW₁⟩)
  dsimp only [Pt.U, Pt.locs, Pt.cells, Pt.slots] at X' e1 e2 h1 h2 h3 st
  subst h1; subst h2; subst h3
  exact ⟨v, (T.setVm vm₁).calling g' mk (Value.ref b :: As).toArray, t, U', L, hT, X', hL, e1, e2, hq, st⟩
section
variable {y : MethodName} {bytes cc : ByteArray} {maxL nL mc ms n index : Nat} {ret : Option FieldType} {ws : List Cond} {rm : Room} {Pc : Array Value → State → Prop} {Qc : Array Value → State → Outcome → State → Prop} {XC : String → State → State → Prop} {free : Addr → Prop} {Ts : List Cond} {own C : String} {b : Addr} {As rest : List Value} {g : JFrame}
theorem vx_runVX {hh : List (Nat × Nat × Nat × Nat)} (S : CallFix p m c cc nL s args Ts own) (hM : vx_Met l y ws rm Pc Qc XC mc ms free) (cw : vx_CVW R s args own C index y bytes maxL ret hh ws rm mc ms n) (hp : PreV s H C b Pc As)
    (hg : g.method = m) (hn : As.length = n) (hsize : g.locals.size = nL) (hstack : g.stack = As.reverse ++ .ref b :: rest) (hW : 2 * g.monitorRoom + (rest.map fun v => v.category).sum ≤ 8) (hdg : decode cc g.pc = .ok (.invokevirtual index, 3)) (hf : cells + mc ≤ R.cells ∧ slots + ms ≤ R.slots) :
    vx_Run p l e R s m args below meth c H locs cells slots mc ms g rest (Qc (Value.ref b :: As).toArray) XC free := by
  obtain ⟨⟨hrc, hrs, hfr, hlo, hws, hcw⟩, hcode, hini, hy, hlen, hl, hin, hse⟩ := cw
  have hK : vx_Back l R p e below s args y 3 8 (PreOf R mc ms Pc) (PostOf Qc mc ms free) (vx_Post XC mc ms free) := vx_backW (hh := hh) (bytes := bytes) (maxL := maxL) (ret := ret) hM hp.1 hrc hrs hfr hlo hws hcw (fun a' U hW => word_at hW (Or.inl (by first | rfl | simp [Cond.onTables, Cond.keeps, Cond.steady])) hini)
  obtain ⟨hx, hb, hml, ho, -⟩ := S
  obtain ⟨-, ⟨cellB, hcB, hoB, hclB⟩, hPc⟩ := hp
  intro T hT X
  rcases vx_callVX X hx (C := C) (hh := hh) (bytes := bytes) (maxL := maxL) (ret := ret) ho hl hin hse hcode hy hK (by rw [hT]; exact hcB) hoB hclB hg (hsize.trans hml.symm) (argsL := As) (rest := rest) (fun sig h => hn.trans (hlen sig h)) hstack hW (by rw [hb]; exact hdg)
    (fun vm₁ hW₁ => ⟨hf.1, hf.2, hPc (T.setVm vm₁) hT hW₁⟩) with ⟨v, vm₁, ⟨U', l2, c2, s2⟩, hW₁, X', ⟨g', mk, t, L, e1, e2, hq, h1, hL, h2, h3⟩, st⟩ | ⟨q, vm₁, ⟨U', l2, c2, s2⟩, hW₁, X', ⟨g', mk, t, L, E, ce, e1, e2, hq, hce, hcv, hcl, h1, hL, h2, h3⟩, st⟩
  · dsimp only [Pt.U, Pt.locs, Pt.cells, Pt.slots] at X' e1 e2 h1 h2 h3 st
    subst h1; subst h2; subst h3
    exact Or.inl ⟨v, (T.setVm vm₁).calling g' mk (Value.ref b :: As).toArray, t, U', L, hT, X', hL, e1, e2, hq, st⟩
  · dsimp only [Pt.U, Pt.locs, Pt.cells, Pt.slots] at X' e1 e2 h1 h2 h3 st hcl
    subst h1; subst h2; subst h3
    exact Or.inr ⟨q, (T.setVm vm₁).calling g' mk (Value.ref b :: As).toArray, t, U', L, E, ce, hT, X', hL, e1, e2, hq, hce, hcv, vx_cls hW₁ hcl, st⟩
theorem vx_runSX {hh : List (Nat × Nat × Nat × Nat)} (S : CallFix p m c cc nL s args Ts own) (hM : vx_Met l y ws rm Pc Qc XC mc ms free) (cw : vx_CSW R s args own index y bytes maxL ret hh ws rm mc ms n) (hp : PreS s H Pc As)
    (hg : g.method = m) (hn : As.length = n) (hsize : g.locals.size = nL) (hstack : g.stack = As.reverse ++ rest) (hW : 2 * g.monitorRoom + (rest.map fun v => v.category).sum ≤ 8) (hdg : decode cc g.pc = .ok (.invokestatic index, 3)) (hf : cells + mc ≤ R.cells ∧ slots + ms ≤ R.slots) :
    vx_Run p l e R s m args below meth c H locs cells slots mc ms g rest (Qc As.toArray) XC free := by
  obtain ⟨⟨hrc, hrs, hfr, hlo, hws, hcw⟩, hcode, hini, hy, hlen, hl, hstt⟩ := cw
  have hK : vx_Back l R p e below s args y 3 8 (PreOf R mc ms Pc) (PostOf Qc mc ms free) (vx_Post XC mc ms free) := vx_backW (hh := hh) (bytes := bytes) (maxL := maxL) (ret := ret) hM hp.1 hrc hrs hfr hlo hws hcw (fun a' U hW => word_at hW (Or.inl (by first | rfl | simp [Cond.onTables, Cond.keeps, Cond.steady])) hini)
  obtain ⟨hx, hb, hml, ho, -⟩ := S
  intro T hT X
  rcases vx_callSX X hx (hh := hh) (bytes := bytes) (maxL := maxL) (ret := ret) ho hl hstt hini hcode hy hK hg (hsize.trans hml.symm) (argsL := As) (rest := rest) (fun sig h => hn.trans (hlen sig h)) hstack hW (by rw [hb]; exact hdg)
    (fun vm₁ hW₁ => ⟨hf.1, hf.2, hp.2 (T.setVm vm₁) hT hW₁⟩) with ⟨v, vm₁, ⟨U', l2, c2, s2⟩, hW₁, X', ⟨g', mk, t, L, e1, e2, hq, h1, hL, h2, h3⟩, st⟩ | ⟨q, vm₁, ⟨U', l2, c2, s2⟩, hW₁, X', ⟨g', mk, t, L, E, ce, e1, e2, hq, hce, hcv, hcl, h1, hL, h2, h3⟩, st⟩
  · dsimp only [Pt.U, Pt.locs, Pt.cells, Pt.slots] at X' e1 e2 h1 h2 h3 st
    subst h1; subst h2; subst h3
    exact Or.inl ⟨v, (T.setVm vm₁).calling g' mk As.toArray, t, U', L, hT, X', hL, e1, e2, hq, st⟩
  · dsimp only [Pt.U, Pt.locs, Pt.cells, Pt.slots] at X' e1 e2 h1 h2 h3 st hcl
    subst h1; subst h2; subst h3
    exact Or.inr ⟨q, (T.setVm vm₁).calling g' mk As.toArray, t, U', L, E, ce, hT, X', hL, e1, e2, hq, hce, hcv, vx_cls hW₁ hcl, st⟩
end
end VXH
theorem vx_ofWH {l : Launch} {y : MethodName} {ws ws' : List Cond} {rm : Room} {Pc : Array Value → State → Prop} {Qc : Array Value → State → Outcome → State → Prop} {XC : String → State → State → Prop} {mc ms : Nat} {free : Addr → Prop} {cc : ByteArray} {maxL : Nat} {ret : Option FieldType} {hh : List (Nat × Nat × Nat × Nat)}
    (hy : plainName y.cls = true) (hw : ws = Cond.codeWith y cc maxL ret hh :: ws')
    (body : ∀ p e s m args below meth c s₁, BodyLoose p l y (headSpec ws rm) cc maxL ret e s m args below meth c s₁ → c.maxLocals = maxL → Pc args s →
      W p l e (headSpec ws rm).room s m args below meth c s.heap [] 0 0 (vx_MQ below Qc XC args s mc ms free) (entryFrame m args maxL)) : vx_Met l y ws rm Pc Qc XC mc ms free := by
  refine MetFree.of_bodyS (code := cc) (maxLocals := maxL) (ret := ret) hy ?_ ?_
  · intro args s m h hn
    obtain ⟨m9, meth, c, hn9, h1, h2, h3, h4, -, h5, h6, -⟩ := Cond.codeWith_spec (atoms_spec (ws := ws) h _ (by rw [hw]; exact List.mem_cons_self))
    cases hn.symm.trans hn9
    exact ⟨meth, c, h1, h2, h3, h4, h5, h6⟩
  · intro p e s m args below meth c s₁ B hml hP _
    have hh0 : s₁.heap = s.heap := by rw [B.state]; rfl
    obtain ⟨t, a1, o, b1, b2, b3⟩ := body p e s m args below meth c s₁ B hml hP s₁ hh0 (Stand.of_body B)
    exact ⟨t, o, a1, b1, b2, b3⟩
/-! ===== END ===== -/
end
section
/-! ===== BEGIN printed: names, fields, word lists, decode rows ===== -/
def RX0 : String := "DirtyTiles$Cache"
def TX0 : u_T := fun k => match k with
  | 0 => ("DirtyTiles$Cache", "tiles", "[J", true)
  | _ => ("DirtyTiles$Cache", "count", "I", false)
def tyX0 : Nat → FieldType := fun k => match k with
  | 0 => .array .long
  | _ => .int
abbrev wsX00 : List Cond := u_ws RX0 TX0 2
theorem nmX0 : ∀ a, a < 2 → ∀ b, b < 2 → a ≠ b → (TX0 a).2.1 ≠ (TX0 b).2.1 := by decide +kernel
theorem tyX0_ok : ∀ k, k < 2 → parseFieldDescriptor (TX0 k).2.2.1 = some (tyX0 k) := by decide +kernel
abbrev cX0_init : ByteArray := prog_2_method_1_code
def yX0_init : MethodName := ⟨RX0, "<init>", "()V"⟩
abbrev cX0_size : ByteArray := prog_2_method_2_code
def yX0_size : MethodName := ⟨RX0, "size", "()I"⟩
abbrev cX0_clear : ByteArray := prog_2_method_3_code
def yX0_clear : MethodName := ⟨RX0, "clear", "()V"⟩
abbrev cX0_holds : ByteArray := prog_2_method_4_code
def yX0_holds : MethodName := ⟨RX0, "holds", "(J)Z"⟩
abbrev cX0_bringToFront : ByteArray := prog_2_method_5_code
def yX0_bringToFront : MethodName := ⟨RX0, "bringToFront", "(J)V"⟩
abbrev cX0_hasSameTilesAs : ByteArray := prog_2_method_6_code
def yX0_hasSameTilesAs : MethodName := ⟨RX0, "hasSameTilesAs", "(LDirtyTiles$Cache;)Z"⟩
abbrev cX0_placeOf : ByteArray := prog_2_method_7_code
def yX0_placeOf : MethodName := ⟨RX0, "placeOf", "(J)I"⟩
def RX1 : String := "DirtyTiles$Client"
def TX1 : u_T := fun k => match k with
  | 0 => ("DirtyTiles$Client", "joined", "Z", false)
  | 1 => ("DirtyTiles$Client", "ownScreen", "LDirtyTiles$Screen;", true)
  | 2 => ("DirtyTiles$Client", "ownCache", "LDirtyTiles$Cache;", true)
  | 3 => ("DirtyTiles$Client", "serverCache", "LDirtyTiles$Cache;", true)
  | 4 => ("DirtyTiles$Client", "dirtyTiles", "[I", true)
  | 5 => ("DirtyTiles$Client", "dirtyCount", "I", false)
  | 6 => ("DirtyTiles$Client", "messageTiles", "[I", true)
  | 7 => ("DirtyTiles$Client", "messageCells", "[J", true)
  | _ => ("DirtyTiles$Client", "messageCount", "I", false)
def tyX1 : Nat → FieldType := fun k => match k with
  | 0 => .boolean
  | 1 => .object "DirtyTiles$Screen"
  | 2 => .object "DirtyTiles$Cache"
  | 3 => .object "DirtyTiles$Cache"
  | 4 => .array .int
  | 5 => .int
  | 6 => .array .int
  | 7 => .array .long
  | _ => .int
abbrev wsX10 : List Cond := u_ws RX1 TX1 9
theorem nmX1 : ∀ a, a < 9 → ∀ b, b < 9 → a ≠ b → (TX1 a).2.1 ≠ (TX1 b).2.1 := by decide +kernel
theorem tyX1_ok : ∀ k, k < 9 → parseFieldDescriptor (TX1 k).2.2.1 = some (tyX1 k) := by decide +kernel
abbrev cX1_init : ByteArray := prog_3_method_1_code
def yX1_init : MethodName := ⟨RX1, "<init>", "()V"⟩
abbrev cX1_hasJoined : ByteArray := prog_3_method_2_code
def yX1_hasJoined : MethodName := ⟨RX1, "hasJoined", "()Z"⟩
abbrev cX1_ownScreen : ByteArray := prog_3_method_3_code
def yX1_ownScreen : MethodName := ⟨RX1, "ownScreen", "()LDirtyTiles$Screen;"⟩
abbrev cX1_ownCache : ByteArray := prog_3_method_4_code
def yX1_ownCache : MethodName := ⟨RX1, "ownCache", "()LDirtyTiles$Cache;"⟩
abbrev cX1_serverCache : ByteArray := prog_3_method_5_code
def yX1_serverCache : MethodName := ⟨RX1, "serverCache", "()LDirtyTiles$Cache;"⟩
abbrev cX1_dirtyCount : ByteArray := prog_3_method_6_code
def yX1_dirtyCount : MethodName := ⟨RX1, "dirtyCount", "()I"⟩
abbrev cX1_dirtyTileAt : ByteArray := prog_3_method_7_code
def yX1_dirtyTileAt : MethodName := ⟨RX1, "dirtyTileAt", "(I)I"⟩
abbrev cX1_messageCount : ByteArray := prog_3_method_8_code
def yX1_messageCount : MethodName := ⟨RX1, "messageCount", "()I"⟩
abbrev cX1_hasMessage : ByteArray := prog_3_method_9_code
def yX1_hasMessage : MethodName := ⟨RX1, "hasMessage", "()Z"⟩
abbrev cX1_beginAnew : ByteArray := prog_3_method_10_code
def yX1_beginAnew : MethodName := ⟨RX1, "beginAnew", "()V"⟩
abbrev cX1_makeDirty : ByteArray := prog_3_method_11_code
def yX1_makeDirty : MethodName := ⟨RX1, "makeDirty", "(I)V"⟩
abbrev cX1_addToMessage : ByteArray := prog_3_method_12_code
def yX1_addToMessage : MethodName := ⟨RX1, "addToMessage", "(IJ)V"⟩
abbrev cX1_cleanTilesOfMessage : ByteArray := prog_3_method_13_code
def yX1_cleanTilesOfMessage : MethodName := ⟨RX1, "cleanTilesOfMessage", "()V"⟩
abbrev cX1_takeMessage : ByteArray := prog_3_method_14_code
def yX1_takeMessage : MethodName := ⟨RX1, "takeMessage", "()I"⟩
def RX2 : String := "DirtyTiles$Screen"
def TX2 : u_T := fun k => match k with
  | _ => ("DirtyTiles$Screen", "tiles", "[J", true)
def tyX2 : Nat → FieldType := fun k => match k with
  | _ => .array .long
abbrev wsX20 : List Cond := u_ws RX2 TX2 1
theorem nmX2 : ∀ a, a < 1 → ∀ b, b < 1 → a ≠ b → (TX2 a).2.1 ≠ (TX2 b).2.1 := by decide +kernel
theorem tyX2_ok : ∀ k, k < 1 → parseFieldDescriptor (TX2 k).2.2.1 = some (tyX2 k) := by decide +kernel
abbrev cX2_init : ByteArray := prog_4_method_1_code
def yX2_init : MethodName := ⟨RX2, "<init>", "()V"⟩
abbrev cX2_cellsOf : ByteArray := prog_4_method_2_code
def yX2_cellsOf : MethodName := ⟨RX2, "cellsOf", "(I)J"⟩
abbrev cX2_replaceTile : ByteArray := prog_4_method_3_code
def yX2_replaceTile : MethodName := ⟨RX2, "replaceTile", "(IJ)V"⟩
abbrev cX2_colourAt : ByteArray := prog_4_method_4_code
def yX2_colourAt : MethodName := ⟨RX2, "colourAt", "(II)I"⟩
abbrev cX2_paint : ByteArray := prog_4_method_5_code
def yX2_paint : MethodName := ⟨RX2, "paint", "(III)V"⟩
abbrev cX2_become : ByteArray := prog_4_method_6_code
def yX2_become : MethodName := ⟨RX2, "become", "(LDirtyTiles$Screen;)V"⟩
abbrev cX2_clear : ByteArray := prog_4_method_7_code
def yX2_clear : MethodName := ⟨RX2, "clear", "()V"⟩
abbrev cX2_tileOf : ByteArray := prog_4_method_8_code
def yX2_tileOf : MethodName := ⟨RX2, "tileOf", "(II)I"⟩
abbrev cX2_placeInTile : ByteArray := prog_4_method_9_code
def yX2_placeInTile : MethodName := ⟨RX2, "placeInTile", "(II)I"⟩
def RX3 : String := "DirtyTiles"
def TX3 : u_T := fun k => match k with
  | 0 => ("DirtyTiles", "screen", "LDirtyTiles$Screen;", true)
  | 1 => ("DirtyTiles", "screenBefore", "LDirtyTiles$Screen;", true)
  | 2 => ("DirtyTiles", "clients", "[LDirtyTiles$Client;", true)
  | 3 => ("DirtyTiles", "tilesWritten", "[I", true)
  | _ => ("DirtyTiles", "unitsWritten", "I", false)
def tyX3 : Nat → FieldType := fun k => match k with
  | 0 => .object "DirtyTiles$Screen"
  | 1 => .object "DirtyTiles$Screen"
  | 2 => .array (.object "DirtyTiles$Client")
  | 3 => .array .int
  | _ => .int
abbrev wsX30 : List Cond := u_ws RX3 TX3 5
theorem nmX3 : ∀ a, a < 5 → ∀ b, b < 5 → a ≠ b → (TX3 a).2.1 ≠ (TX3 b).2.1 := by decide +kernel
theorem tyX3_ok : ∀ k, k < 5 → parseFieldDescriptor (TX3 k).2.2.1 = some (tyX3 k) := by decide +kernel
abbrev cX3_init : ByteArray := prog_1_method_1_code
def yX3_init : MethodName := ⟨RX3, "<init>", "()V"⟩
abbrev cX3_fill : ByteArray := prog_1_method_2_code
def yX3_fill : MethodName := ⟨RX3, "fill", "(IIIII)I"⟩
abbrev cX3_copy : ByteArray := prog_1_method_3_code
def yX3_copy : MethodName := ⟨RX3, "copy", "(IIIIII)I"⟩
abbrev cX3_colour : ByteArray := prog_1_method_4_code
def yX3_colour : MethodName := ⟨RX3, "colour", "(II)I"⟩
abbrev cX3_colours : ByteArray := prog_1_method_5_code
def yX3_colours : MethodName := ⟨RX3, "colours", "(I)I"⟩
abbrev cX3_runs : ByteArray := prog_1_method_6_code
def yX3_runs : MethodName := ⟨RX3, "runs", "(I)I"⟩
abbrev cX3_way : ByteArray := prog_1_method_7_code
def yX3_way : MethodName := ⟨RX3, "way", "(II)I"⟩
abbrev cX3_join : ByteArray := prog_1_method_8_code
def yX3_join : MethodName := ⟨RX3, "join", "(I)I"⟩
abbrev cX3_ask : ByteArray := prog_1_method_9_code
def yX3_ask : MethodName := ⟨RX3, "ask", "(II)I"⟩
abbrev cX3_answer : ByteArray := prog_1_method_10_code
def yX3_answer : MethodName := ⟨RX3, "answer", "(I)I"⟩
abbrev cX3_shown : ByteArray := prog_1_method_11_code
def yX3_shown : MethodName := ⟨RX3, "shown", "(III)I"⟩
abbrev cX3_unlike : ByteArray := prog_1_method_12_code
def yX3_unlike : MethodName := ⟨RX3, "unlike", "(I)I"⟩
abbrev cX3_dirty : ByteArray := prog_1_method_13_code
def yX3_dirty : MethodName := ⟨RX3, "dirty", "(I)I"⟩
abbrev cX3_dirtyAt : ByteArray := prog_1_method_14_code
def yX3_dirtyAt : MethodName := ⟨RX3, "dirtyAt", "(II)I"⟩
abbrev cX3_cached : ByteArray := prog_1_method_15_code
def yX3_cached : MethodName := ⟨RX3, "cached", "(I)I"⟩
abbrev cX3_isAlike : ByteArray := prog_1_method_16_code
def yX3_isAlike : MethodName := ⟨RX3, "isAlike", "(I)Z"⟩
abbrev cX3_written : ByteArray := prog_1_method_17_code
def yX3_written : MethodName := ⟨RX3, "written", "(I)I"⟩
abbrev cX3_units : ByteArray := prog_1_method_18_code
def yX3_units : MethodName := ⟨RX3, "units", "()I"⟩
abbrev cX3_requireArgument : ByteArray := prog_1_method_19_code
def yX3_requireArgument : MethodName := ⟨RX3, "requireArgument", "(Z)V"⟩
abbrev cX3_requireState : ByteArray := prog_1_method_20_code
def yX3_requireState : MethodName := ⟨RX3, "requireState", "(Z)V"⟩
abbrev cX3_isBetween : ByteArray := prog_1_method_21_code
def yX3_isBetween : MethodName := ⟨RX3, "isBetween", "(III)Z"⟩
abbrev cX3_isIndex : ByteArray := prog_1_method_22_code
def yX3_isIndex : MethodName := ⟨RX3, "isIndex", "(II)Z"⟩
abbrev cX3_isCell : ByteArray := prog_1_method_23_code
def yX3_isCell : MethodName := ⟨RX3, "isCell", "(II)Z"⟩
abbrev cX3_isBox : ByteArray := prog_1_method_24_code
def yX3_isBox : MethodName := ⟨RX3, "isBox", "(IIII)Z"⟩
abbrev cX3_noteChanges : ByteArray := prog_1_method_25_code
def yX3_noteChanges : MethodName := ⟨RX3, "noteChanges", "()I"⟩
abbrev cX3_makeDirtyForAll : ByteArray := prog_1_method_26_code
def yX3_makeDirtyForAll : MethodName := ⟨RX3, "makeDirtyForAll", "(I)V"⟩
abbrev cX3_writeMessage : ByteArray := prog_1_method_27_code
def yX3_writeMessage : MethodName := ⟨RX3, "writeMessage", "(LDirtyTiles$Client;I)V"⟩
abbrev cX3_cheapestWriting : ByteArray := prog_1_method_28_code
def yX3_cheapestWriting : MethodName := ⟨RX3, "cheapestWriting", "(JLDirtyTiles$Cache;)I"⟩
abbrev cX3_unitsIn : ByteArray := prog_1_method_29_code
def yX3_unitsIn : MethodName := ⟨RX3, "unitsIn", "(IJLDirtyTiles$Cache;)I"⟩
abbrev cX3_unitsByColours : ByteArray := prog_1_method_30_code
def yX3_unitsByColours : MethodName := ⟨RX3, "unitsByColours", "(I)I"⟩
abbrev cX3_cellAt : ByteArray := prog_1_method_31_code
def yX3_cellAt : MethodName := ⟨RX3, "cellAt", "(JI)I"⟩
abbrev cX3_countColours : ByteArray := prog_1_method_32_code
def yX3_countColours : MethodName := ⟨RX3, "countColours", "(J)I"⟩
abbrev cX3_countRuns : ByteArray := prog_1_method_33_code
def yX3_countRuns : MethodName := ⟨RX3, "countRuns", "(J)I"⟩
abbrev cX3_countDifferent : ByteArray := prog_1_method_34_code
def yX3_countDifferent : MethodName := ⟨RX3, "countDifferent", "(JJ)I"⟩
def RX4 : String := "DirtyTilesModel"
def TX4 : u_T := fun k => match k with
  | 0 => ("DirtyTilesModel", "thrown", "I", false)
  | 1 => ("DirtyTilesModel", "screen", "[I", true)
  | 2 => ("DirtyTilesModel", "before", "[I", true)
  | 3 => ("DirtyTilesModel", "isIn", "[Z", true)
  | 4 => ("DirtyTilesModel", "screens", "[I", true)
  | 5 => ("DirtyTilesModel", "caches", "[I", true)
  | 6 => ("DirtyTilesModel", "sizes", "[I", true)
  | 7 => ("DirtyTilesModel", "owns", "[I", true)
  | 8 => ("DirtyTilesModel", "ownSizes", "[I", true)
  | 9 => ("DirtyTilesModel", "dirty", "[I", true)
  | 10 => ("DirtyTilesModel", "many", "[I", true)
  | 11 => ("DirtyTilesModel", "sent", "[I", true)
  | 12 => ("DirtyTilesModel", "cells", "[I", true)
  | 13 => ("DirtyTilesModel", "waiting", "[I", true)
  | 14 => ("DirtyTilesModel", "written", "[I", true)
  | 15 => ("DirtyTilesModel", "units", "I", false)
  | _ => ("DirtyTilesModel", "tile", "[I", true)
def tyX4 : Nat → FieldType := fun k => match k with
  | 0 => .int
  | 1 => .array .int
  | 2 => .array .int
  | 3 => .array .boolean
  | 4 => .array .int
  | 5 => .array .int
  | 6 => .array .int
  | 7 => .array .int
  | 8 => .array .int
  | 9 => .array .int
  | 10 => .array .int
  | 11 => .array .int
  | 12 => .array .int
  | 13 => .array .int
  | 14 => .array .int
  | 15 => .int
  | _ => .array .int
abbrev wsX40 : List Cond := u_ws RX4 TX4 17
theorem nmX4 : ∀ a, a < 17 → ∀ b, b < 17 → a ≠ b → (TX4 a).2.1 ≠ (TX4 b).2.1 := by decide +kernel
theorem tyX4_ok : ∀ k, k < 17 → parseFieldDescriptor (TX4 k).2.2.1 = some (tyX4 k) := by decide +kernel
abbrev cX4_init : ByteArray := prog_6_method_1_code
def yX4_init : MethodName := ⟨RX4, "<init>", "()V"⟩
abbrev cX4_thrown : ByteArray := prog_6_method_2_code
def yX4_thrown : MethodName := ⟨RX4, "thrown", "()I"⟩
abbrev cX4_goesWell : ByteArray := prog_6_method_3_code
def yX4_goesWell : MethodName := ⟨RX4, "goesWell", "(I)Z"⟩
abbrev cX4_in : ByteArray := prog_6_method_4_code
def yX4_in : MethodName := ⟨RX4, "in", "(III)Z"⟩
abbrev cX4_isClient : ByteArray := prog_6_method_5_code
def yX4_isClient : MethodName := ⟨RX4, "isClient", "(I)Z"⟩
abbrev cX4_isTile : ByteArray := prog_6_method_6_code
def yX4_isTile : MethodName := ⟨RX4, "isTile", "(I)Z"⟩
abbrev cX4_isCell : ByteArray := prog_6_method_7_code
def yX4_isCell : MethodName := ⟨RX4, "isCell", "(II)Z"⟩
abbrev cX4_cellOf : ByteArray := prog_6_method_8_code
def yX4_cellOf : MethodName := ⟨RX4, "cellOf", "(II)I"⟩
abbrev cX4_isBox : ByteArray := prog_6_method_9_code
def yX4_isBox : MethodName := ⟨RX4, "isBox", "(IIII)Z"⟩
abbrev cX4_keep : ByteArray := prog_6_method_10_code
def yX4_keep : MethodName := ⟨RX4, "keep", "()V"⟩
abbrev cX4_soil : ByteArray := prog_6_method_11_code
def yX4_soil : MethodName := ⟨RX4, "soil", "(II)V"⟩
abbrev cX4_settle : ByteArray := prog_6_method_12_code
def yX4_settle : MethodName := ⟨RX4, "settle", "()I"⟩
abbrev cX4_fill : ByteArray := prog_6_method_13_code
def yX4_fill : MethodName := ⟨RX4, "fill", "(IIIII)I"⟩
abbrev cX4_copy : ByteArray := prog_6_method_14_code
def yX4_copy : MethodName := ⟨RX4, "copy", "(IIIIII)I"⟩
abbrev cX4_colour : ByteArray := prog_6_method_15_code
def yX4_colour : MethodName := ⟨RX4, "colour", "(II)I"⟩
abbrev cX4_look : ByteArray := prog_6_method_16_code
def yX4_look : MethodName := ⟨RX4, "look", "(I)V"⟩
abbrev cX4_countColours : ByteArray := prog_6_method_17_code
def yX4_countColours : MethodName := ⟨RX4, "countColours", "()I"⟩
abbrev cX4_countRuns : ByteArray := prog_6_method_18_code
def yX4_countRuns : MethodName := ⟨RX4, "countRuns", "()I"⟩
abbrev cX4_colours : ByteArray := prog_6_method_19_code
def yX4_colours : MethodName := ⟨RX4, "colours", "(I)I"⟩
abbrev cX4_runs : ByteArray := prog_6_method_20_code
def yX4_runs : MethodName := ⟨RX4, "runs", "(I)I"⟩
abbrev cX4_find : ByteArray := prog_6_method_21_code
def yX4_find : MethodName := ⟨RX4, "find", "(I)I"⟩
abbrev cX4_better : ByteArray := prog_6_method_22_code
def yX4_better : MethodName := ⟨RX4, "better", "(III)I"⟩
abbrev cX4_wayOf : ByteArray := prog_6_method_23_code
def yX4_wayOf : MethodName := ⟨RX4, "wayOf", "(I)I"⟩
abbrev cX4_way : ByteArray := prog_6_method_24_code
def yX4_way : MethodName := ⟨RX4, "way", "(II)I"⟩
abbrev cX4_join : ByteArray := prog_6_method_25_code
def yX4_join : MethodName := ⟨RX4, "join", "(I)I"⟩
abbrev cX4_shift : ByteArray := prog_6_method_26_code
def yX4_shift : MethodName := ⟨RX4, "shift", "([III)V"⟩
abbrev cX4_findOwn : ByteArray := prog_6_method_27_code
def yX4_findOwn : MethodName := ⟨RX4, "findOwn", "(I)I"⟩
abbrev cX4_cache : ByteArray := prog_6_method_28_code
def yX4_cache : MethodName := ⟨RX4, "cache", "(I)V"⟩
abbrev cX4_cacheOwn : ByteArray := prog_6_method_29_code
def yX4_cacheOwn : MethodName := ⟨RX4, "cacheOwn", "(I)V"⟩
abbrev cX4_write : ByteArray := prog_6_method_30_code
def yX4_write : MethodName := ⟨RX4, "write", "(II)I"⟩
abbrev cX4_ask : ByteArray := prog_6_method_31_code
def yX4_ask : MethodName := ⟨RX4, "ask", "(II)I"⟩
abbrev cX4_answer : ByteArray := prog_6_method_32_code
def yX4_answer : MethodName := ⟨RX4, "answer", "(I)I"⟩
abbrev cX4_shown : ByteArray := prog_6_method_33_code
def yX4_shown : MethodName := ⟨RX4, "shown", "(III)I"⟩
abbrev cX4_isJoined : ByteArray := prog_6_method_34_code
def yX4_isJoined : MethodName := ⟨RX4, "isJoined", "(I)Z"⟩
abbrev cX4_unlike : ByteArray := prog_6_method_35_code
def yX4_unlike : MethodName := ⟨RX4, "unlike", "(I)I"⟩
abbrev cX4_dirty : ByteArray := prog_6_method_36_code
def yX4_dirty : MethodName := ⟨RX4, "dirty", "(I)I"⟩
abbrev cX4_dirtyAt : ByteArray := prog_6_method_37_code
def yX4_dirtyAt : MethodName := ⟨RX4, "dirtyAt", "(II)I"⟩
abbrev cX4_cached : ByteArray := prog_6_method_38_code
def yX4_cached : MethodName := ⟨RX4, "cached", "(I)I"⟩
abbrev cX4_isAlike : ByteArray := prog_6_method_39_code
def yX4_isAlike : MethodName := ⟨RX4, "isAlike", "(I)Z"⟩
abbrev cX4_written : ByteArray := prog_6_method_40_code
def yX4_written : MethodName := ⟨RX4, "written", "(I)I"⟩
abbrev cX4_units : ByteArray := prog_6_method_41_code
def yX4_units : MethodName := ⟨RX4, "units", "()I"⟩
def RJ6 : String := "java/lang/Integer"
def TJ6 : u_T := fun k => match k with
  | _ => ("", "", "", false)
def tyJ6 : Nat → FieldType := fun k => match k with
  | _ => .int
abbrev wsJ60 : List Cond := u_ws RJ6 TJ6 0
theorem nmJ6 : ∀ a, a < 0 → ∀ b, b < 0 → a ≠ b → (TJ6 a).2.1 ≠ (TJ6 b).2.1 := by decide +kernel
theorem tyJ6_ok : ∀ k, k < 0 → parseFieldDescriptor (TJ6 k).2.2.1 = some (tyJ6 k) := by decide +kernel
abbrev cJ6_bitCount_0f7a4 : ByteArray := prog_11_method_49_code
def yJ6_bitCount_0f7a4 : MethodName := ⟨RJ6, "bitCount", "(I)I"⟩
def RJ9 : String := "java/lang/Math"
def TJ9 : u_T := fun k => match k with
  | _ => ("", "", "", false)
def tyJ9 : Nat → FieldType := fun k => match k with
  | _ => .int
abbrev wsJ90 : List Cond := u_ws RJ9 TJ9 0
theorem nmJ9 : ∀ a, a < 0 → ∀ b, b < 0 → a ≠ b → (TJ9 a).2.1 ≠ (TJ9 b).2.1 := by decide +kernel
theorem tyJ9_ok : ∀ k, k < 0 → parseFieldDescriptor (TJ9 k).2.2.1 = some (tyJ9 k) := by decide +kernel
abbrev cJ9_min_7cf53 : ByteArray := prog_12_method_69_code
def yJ9_min_7cf53 : MethodName := ⟨RJ9, "min", "(II)I"⟩
def RJ0 : String := "java/lang/String"
def TJ0 : u_T := fun k => match k with
  | _ => ("", "", "", false)
def tyJ0 : Nat → FieldType := fun k => match k with
  | _ => .int
abbrev wsJ00 : List Cond := u_ws RJ0 TJ0 0
theorem nmJ0 : ∀ a, a < 0 → ∀ b, b < 0 → a ≠ b → (TJ0 a).2.1 ≠ (TJ0 b).2.1 := by decide +kernel
theorem tyJ0_ok : ∀ k, k < 0 → parseFieldDescriptor (TJ0 k).2.2.1 = some (tyJ0 k) := by decide +kernel
def RL : String := "DirtyTilesLaw"
abbrev cL_fill : ByteArray := method_3_code
def yL_fill : MethodName := ⟨RL, "fill", "(LDirtyTiles;IIIII[J)I"⟩
abbrev cL_copy : ByteArray := method_4_code
def yL_copy : MethodName := ⟨RL, "copy", "(LDirtyTiles;IIIIII[J)I"⟩
abbrev cL_colour : ByteArray := method_5_code
def yL_colour : MethodName := ⟨RL, "colour", "(LDirtyTiles;II[J)I"⟩
abbrev cL_colours : ByteArray := method_6_code
def yL_colours : MethodName := ⟨RL, "colours", "(LDirtyTiles;I[J)I"⟩
abbrev cL_runs : ByteArray := method_7_code
def yL_runs : MethodName := ⟨RL, "runs", "(LDirtyTiles;I[J)I"⟩
abbrev cL_way : ByteArray := method_8_code
def yL_way : MethodName := ⟨RL, "way", "(LDirtyTiles;II[J)I"⟩
abbrev cL_join : ByteArray := method_9_code
def yL_join : MethodName := ⟨RL, "join", "(LDirtyTiles;I[J)I"⟩
abbrev cL_ask : ByteArray := method_10_code
def yL_ask : MethodName := ⟨RL, "ask", "(LDirtyTiles;II[J)I"⟩
abbrev cL_answer : ByteArray := method_11_code
def yL_answer : MethodName := ⟨RL, "answer", "(LDirtyTiles;I[J)I"⟩
abbrev cL_shown : ByteArray := method_12_code
def yL_shown : MethodName := ⟨RL, "shown", "(LDirtyTiles;III[J)I"⟩
abbrev cL_unlike : ByteArray := method_13_code
def yL_unlike : MethodName := ⟨RL, "unlike", "(LDirtyTiles;I[J)I"⟩
abbrev cL_dirty : ByteArray := method_14_code
def yL_dirty : MethodName := ⟨RL, "dirty", "(LDirtyTiles;I[J)I"⟩
abbrev cL_dirtyAt : ByteArray := method_15_code
def yL_dirtyAt : MethodName := ⟨RL, "dirtyAt", "(LDirtyTiles;II[J)I"⟩
abbrev cL_cached : ByteArray := method_16_code
def yL_cached : MethodName := ⟨RL, "cached", "(LDirtyTiles;I[J)I"⟩
abbrev cL_isAlike : ByteArray := method_17_code
def yL_isAlike : MethodName := ⟨RL, "isAlike", "(LDirtyTiles;I[J)I"⟩
abbrev cL_written : ByteArray := method_18_code
def yL_written : MethodName := ⟨RL, "written", "(LDirtyTiles;I[J)I"⟩
abbrev cL_law : ByteArray := code
def yL_law : MethodName := ⟨RL, "law", "([I)Z"⟩
def wsX0_init : List Cond := .code yX0_init cX0_init 1 none :: ([.methodLink RX0 3 objectInit, .instanceMethod objectInit, .code objectInit ⟨#[0xb1]⟩ 1 none, .arrayClass .long, .fieldLink RX0 9 "DirtyTiles$Cache" "tiles" "[J", .fieldLink RX0 15 "DirtyTiles$Cache" "count" "I"] ++ wsX00)
def wsX0_size : List Cond := .code yX0_size cX0_size 1 (some .int) :: ([.fieldLink RX0 15 "DirtyTiles$Cache" "count" "I"] ++ wsX00)
def wsX0_clear : List Cond := .code yX0_clear cX0_clear 1 none :: ([.fieldLink RX0 15 "DirtyTiles$Cache" "count" "I"] ++ wsX00)
def wsX0_placeOf : List Cond := .code yX0_placeOf cX0_placeOf 4 (some .int) :: ([.fieldLink RX0 15 "DirtyTiles$Cache" "count" "I", .fieldLink RX0 9 "DirtyTiles$Cache" "tiles" "[J"] ++ wsX00)
def wsX0_holds : List Cond := .code yX0_holds cX0_holds 3 (some .boolean) :: ([.fieldLink RX0 15 "DirtyTiles$Cache" "count" "I", .methodLink RX0 19 yX0_placeOf, .instanceMethod yX0_placeOf, .selects RX0 yX0_placeOf yX0_placeOf, .initialized RX0, .code yX0_placeOf cX0_placeOf 4 (some .int), .fieldLink RX0 9 "DirtyTiles$Cache" "tiles" "[J"] ++ wsX00)
def wsX0_bringToFront : List Cond := .code yX0_bringToFront cX0_bringToFront 5 none :: ([.fieldLink RX0 15 "DirtyTiles$Cache" "count" "I", .methodLink RX0 23 Lib.Math.min.name, .static Lib.Math.min.name, .initialized "java/lang/Math", .code Lib.Math.min.name Lib.Math.min.code 2 (some .int), .fieldLink RX0 9 "DirtyTiles$Cache" "tiles" "[J", .methodLink RX0 19 yX0_placeOf, .instanceMethod yX0_placeOf, .selects RX0 yX0_placeOf yX0_placeOf, .initialized RX0, .code yX0_placeOf cX0_placeOf 4 (some .int)] ++ wsX00)
def wsX0_hasSameTilesAs : List Cond := .code yX0_hasSameTilesAs cX0_hasSameTilesAs 3 (some .boolean) :: ([.fieldLink RX0 15 "DirtyTiles$Cache" "count" "I", .fieldLink RX0 9 "DirtyTiles$Cache" "tiles" "[J"] ++ wsX00)
def wsX2_init : List Cond := .code yX2_init cX2_init 1 none :: ([.methodLink RX2 3 objectInit, .instanceMethod objectInit, .code objectInit ⟨#[0xb1]⟩ 1 none, .arrayClass .long, .fieldLink RX2 9 "DirtyTiles$Screen" "tiles" "[J"] ++ wsX20)
def wsX1_init_r1 : List Cond := [Cond.methodLink RX1 3 objectInit, Cond.instanceMethod objectInit, Cond.code objectInit ⟨#[0xb1]⟩ 1 none, Cond.fieldLink RX1 9 "DirtyTiles$Client" "joined" "Z", Cond.classLink RX1 15 RX2, Cond.instantiable RX2 1, Cond.initialized RX2, Cond.fieldLink RX1 18 "DirtyTiles$Client" "ownScreen" "LDirtyTiles$Screen;", Cond.classLink RX1 22 RX0, Cond.instantiable RX0 2, Cond.initialized RX0, Cond.fieldLink RX1 25 "DirtyTiles$Client" "ownCache" "LDirtyTiles$Cache;", Cond.fieldLink RX1 29 "DirtyTiles$Client" "serverCache" "LDirtyTiles$Cache;", Cond.arrayClass .int, Cond.fieldLink RX1 32 "DirtyTiles$Client" "dirtyTiles" "[I", Cond.fieldLink RX1 36 "DirtyTiles$Client" "dirtyCount" "I", Cond.fieldLink RX1 40 "DirtyTiles$Client" "messageTiles" "[I", Cond.arrayClass .long, Cond.fieldLink RX1 43 "DirtyTiles$Client" "messageCells" "[J", Cond.fieldLink RX1 47 "DirtyTiles$Client" "messageCount" "I", Cond.instanceMethod yX2_init, Cond.code yX2_init cX2_init 1 none, Cond.methodLink RX2 3 objectInit, Cond.fieldLink RX2 9 "DirtyTiles$Screen" "tiles" "[J"]
def wsX1_init_r2 : List Cond := [Cond.instanceMethod yX0_init, Cond.code yX0_init cX0_init 1 none, Cond.methodLink RX0 3 objectInit, Cond.fieldLink RX0 9 "DirtyTiles$Cache" "tiles" "[J", Cond.fieldLink RX0 15 "DirtyTiles$Cache" "count" "I"]
def wsX1_init : List Cond := .code yX1_init cX1_init 1 none :: ((wsX1_init_r1 ++ wsX1_init_r2) ++ wsX10 ++ wsX20 ++ wsX00)
def wsX1_hasJoined : List Cond := .code yX1_hasJoined cX1_hasJoined 1 (some .boolean) :: ([.fieldLink RX1 9 "DirtyTiles$Client" "joined" "Z"] ++ wsX10)
def wsX1_ownScreen : List Cond := .code yX1_ownScreen cX1_ownScreen 1 (some (.object "DirtyTiles$Screen")) :: ([.fieldLink RX1 18 "DirtyTiles$Client" "ownScreen" "LDirtyTiles$Screen;"] ++ wsX10)
def wsX1_ownCache : List Cond := .code yX1_ownCache cX1_ownCache 1 (some (.object "DirtyTiles$Cache")) :: ([.fieldLink RX1 25 "DirtyTiles$Client" "ownCache" "LDirtyTiles$Cache;"] ++ wsX10)
def wsX1_serverCache : List Cond := .code yX1_serverCache cX1_serverCache 1 (some (.object "DirtyTiles$Cache")) :: ([.fieldLink RX1 29 "DirtyTiles$Client" "serverCache" "LDirtyTiles$Cache;"] ++ wsX10)
def wsX1_dirtyCount : List Cond := .code yX1_dirtyCount cX1_dirtyCount 1 (some .int) :: ([.fieldLink RX1 36 "DirtyTiles$Client" "dirtyCount" "I"] ++ wsX10)
def wsX1_dirtyTileAt : List Cond := .code yX1_dirtyTileAt cX1_dirtyTileAt 2 (some .int) :: ([.fieldLink RX1 32 "DirtyTiles$Client" "dirtyTiles" "[I"] ++ wsX10)
def wsX1_messageCount : List Cond := .code yX1_messageCount cX1_messageCount 1 (some .int) :: ([.fieldLink RX1 47 "DirtyTiles$Client" "messageCount" "I"] ++ wsX10)
def wsX1_hasMessage : List Cond := .code yX1_hasMessage cX1_hasMessage 1 (some .boolean) :: ([.fieldLink RX1 47 "DirtyTiles$Client" "messageCount" "I"] ++ wsX10)
def wsX2_clear : List Cond := .code yX2_clear cX2_clear 2 none :: ([.fieldLink RX2 9 "DirtyTiles$Screen" "tiles" "[J"] ++ wsX20)
def wsX1_beginAnew : List Cond := .code yX1_beginAnew cX1_beginAnew 2 none :: ([.fieldLink RX1 9 "DirtyTiles$Client" "joined" "Z", .fieldLink RX1 18 "DirtyTiles$Client" "ownScreen" "LDirtyTiles$Screen;", .fieldLink RX1 25 "DirtyTiles$Client" "ownCache" "LDirtyTiles$Cache;", .fieldLink RX1 29 "DirtyTiles$Client" "serverCache" "LDirtyTiles$Cache;", .fieldLink RX1 47 "DirtyTiles$Client" "messageCount" "I", .fieldLink RX1 32 "DirtyTiles$Client" "dirtyTiles" "[I", .fieldLink RX1 36 "DirtyTiles$Client" "dirtyCount" "I", .methodLink RX1 50 yX2_clear, .instanceMethod yX2_clear, .selects RX2 yX2_clear yX2_clear, .initialized RX2, .code yX2_clear cX2_clear 2 none, .fieldLink RX2 9 "DirtyTiles$Screen" "tiles" "[J", .methodLink RX1 53 yX0_clear, .instanceMethod yX0_clear, .selects RX0 yX0_clear yX0_clear, .initialized RX0, .code yX0_clear cX0_clear 1 none, .fieldLink RX0 15 "DirtyTiles$Cache" "count" "I"] ++ wsX10 ++ wsX20 ++ wsX00)
def wsX1_makeDirty : List Cond := .code yX1_makeDirty cX1_makeDirty 3 none :: ([.fieldLink RX1 36 "DirtyTiles$Client" "dirtyCount" "I", .fieldLink RX1 32 "DirtyTiles$Client" "dirtyTiles" "[I"] ++ wsX10)
def wsX1_addToMessage : List Cond := .code yX1_addToMessage cX1_addToMessage 4 none :: ([.fieldLink RX1 47 "DirtyTiles$Client" "messageCount" "I", .fieldLink RX1 40 "DirtyTiles$Client" "messageTiles" "[I", .fieldLink RX1 43 "DirtyTiles$Client" "messageCells" "[J", .fieldLink RX1 29 "DirtyTiles$Client" "serverCache" "LDirtyTiles$Cache;", .methodLink RX1 54 yX0_bringToFront, .instanceMethod yX0_bringToFront, .selects RX0 yX0_bringToFront yX0_bringToFront, .initialized RX0, .code yX0_bringToFront cX0_bringToFront 5 none, .fieldLink RX0 15 "DirtyTiles$Cache" "count" "I", .methodLink RX0 23 Lib.Math.min.name, .static Lib.Math.min.name, .initialized "java/lang/Math", .code Lib.Math.min.name Lib.Math.min.code 2 (some .int), .fieldLink RX0 9 "DirtyTiles$Cache" "tiles" "[J", .methodLink RX0 19 yX0_placeOf, .instanceMethod yX0_placeOf, .selects RX0 yX0_placeOf yX0_placeOf, .code yX0_placeOf cX0_placeOf 4 (some .int)] ++ wsX10 ++ wsX00)
def wsX1_cleanTilesOfMessage : List Cond := .code yX1_cleanTilesOfMessage cX1_cleanTilesOfMessage 2 none :: ([.fieldLink RX1 47 "DirtyTiles$Client" "messageCount" "I", .fieldLink RX1 36 "DirtyTiles$Client" "dirtyCount" "I", .fieldLink RX1 32 "DirtyTiles$Client" "dirtyTiles" "[I"] ++ wsX10)
def wsX2_replaceTile : List Cond := .code yX2_replaceTile cX2_replaceTile 4 none :: ([.fieldLink RX2 9 "DirtyTiles$Screen" "tiles" "[J"] ++ wsX20)
def wsX1_takeMessage_r1 : List Cond := [Cond.fieldLink RX1 47 "DirtyTiles$Client" "messageCount" "I", Cond.fieldLink RX1 18 "DirtyTiles$Client" "ownScreen" "LDirtyTiles$Screen;", Cond.fieldLink RX1 40 "DirtyTiles$Client" "messageTiles" "[I", Cond.fieldLink RX1 43 "DirtyTiles$Client" "messageCells" "[J", Cond.fieldLink RX1 25 "DirtyTiles$Client" "ownCache" "LDirtyTiles$Cache;", Cond.methodLink RX1 58 yX2_replaceTile, Cond.instanceMethod yX2_replaceTile, Cond.selects RX2 yX2_replaceTile yX2_replaceTile, Cond.initialized RX2, Cond.code yX2_replaceTile cX2_replaceTile 4 none, Cond.fieldLink RX2 9 "DirtyTiles$Screen" "tiles" "[J", Cond.methodLink RX1 54 yX0_bringToFront, Cond.instanceMethod yX0_bringToFront, Cond.selects RX0 yX0_bringToFront yX0_bringToFront, Cond.initialized RX0, Cond.code yX0_bringToFront cX0_bringToFront 5 none, Cond.fieldLink RX0 15 "DirtyTiles$Cache" "count" "I", Cond.methodLink RX0 23 Lib.Math.min.name, Cond.static Lib.Math.min.name, Cond.initialized "java/lang/Math", Cond.code Lib.Math.min.name Lib.Math.min.code 2 (some .int), Cond.fieldLink RX0 9 "DirtyTiles$Cache" "tiles" "[J", Cond.methodLink RX0 19 yX0_placeOf, Cond.instanceMethod yX0_placeOf]
def wsX1_takeMessage_r2 : List Cond := [Cond.selects RX0 yX0_placeOf yX0_placeOf, Cond.code yX0_placeOf cX0_placeOf 4 (some .int)]
def wsX1_takeMessage : List Cond := .code yX1_takeMessage cX1_takeMessage 3 (some .int) :: ((wsX1_takeMessage_r1 ++ wsX1_takeMessage_r2) ++ wsX10 ++ wsX20 ++ wsX00)
def wsX2_cellsOf : List Cond := .code yX2_cellsOf cX2_cellsOf 2 (some .long) :: ([.fieldLink RX2 9 "DirtyTiles$Screen" "tiles" "[J"] ++ wsX20)
def wsX2_tileOf : List Cond := .code yX2_tileOf cX2_tileOf 2 (some .int) :: ([])
def wsX2_placeInTile : List Cond := .code yX2_placeInTile cX2_placeInTile 2 (some .int) :: ([])
def wsX3_cellAt : List Cond := .code yX3_cellAt cX3_cellAt 3 (some .int) :: ([.constantLong RX3 180 (15)])
def wsX2_colourAt : List Cond := .code yX2_colourAt cX2_colourAt 3 (some .int) :: ([.fieldLink RX2 9 "DirtyTiles$Screen" "tiles" "[J", .methodLink RX2 15 yX2_tileOf, .static yX2_tileOf, .initialized RX2, .code yX2_tileOf cX2_tileOf 2 (some .int), .methodLink RX2 19 yX2_placeInTile, .static yX2_placeInTile, .code yX2_placeInTile cX2_placeInTile 2 (some .int), .static yX3_cellAt, .initialized RX3, .code yX3_cellAt cX3_cellAt 3 (some .int), .constantLong RX3 180 (15)] ++ wsX20)
def wsX2_paint : List Cond := .code yX2_paint cX2_paint 6 none :: ([.fieldLink RX2 9 "DirtyTiles$Screen" "tiles" "[J", .constantLong RX2 26 (15), .constantLong RX2 28 (-1), .methodLink RX2 15 yX2_tileOf, .static yX2_tileOf, .initialized RX2, .code yX2_tileOf cX2_tileOf 2 (some .int), .methodLink RX2 19 yX2_placeInTile, .static yX2_placeInTile, .code yX2_placeInTile cX2_placeInTile 2 (some .int)] ++ wsX20)
def wsX2_become : List Cond := .code yX2_become cX2_become 3 none :: ([.fieldLink RX2 9 "DirtyTiles$Screen" "tiles" "[J"] ++ wsX20)
def wsX3_init_r1 : List Cond := [Cond.methodLink RX3 1 objectInit, Cond.instanceMethod objectInit, Cond.code objectInit ⟨#[0xb1]⟩ 1 none, Cond.classLink RX3 7 RX2, Cond.instantiable RX2 1, Cond.initialized RX2, Cond.fieldLink RX3 10 "DirtyTiles" "screen" "LDirtyTiles$Screen;", Cond.fieldLink RX3 16 "DirtyTiles" "screenBefore" "LDirtyTiles$Screen;", Cond.classLink RX3 19 RX1, Cond.fieldLink RX3 21 "DirtyTiles" "clients" "[LDirtyTiles$Client;", Cond.arrayClass .int, Cond.fieldLink RX3 25 "DirtyTiles" "tilesWritten" "[I", Cond.fieldLink RX3 29 "DirtyTiles" "unitsWritten" "I", Cond.instantiable RX1 9, Cond.initialized RX1, Cond.instanceMethod yX2_init, Cond.code yX2_init cX2_init 1 none, Cond.methodLink RX2 3 objectInit, Cond.arrayClass .long, Cond.fieldLink RX2 9 "DirtyTiles$Screen" "tiles" "[J", Cond.instanceMethod yX1_init, Cond.code yX1_init cX1_init 1 none, Cond.methodLink RX1 3 objectInit, Cond.fieldLink RX1 9 "DirtyTiles$Client" "joined" "Z"]
def wsX3_init_r2 : List Cond := [Cond.classLink RX1 15 RX2, Cond.fieldLink RX1 18 "DirtyTiles$Client" "ownScreen" "LDirtyTiles$Screen;", Cond.classLink RX1 22 RX0, Cond.instantiable RX0 2, Cond.initialized RX0, Cond.fieldLink RX1 25 "DirtyTiles$Client" "ownCache" "LDirtyTiles$Cache;", Cond.fieldLink RX1 29 "DirtyTiles$Client" "serverCache" "LDirtyTiles$Cache;", Cond.fieldLink RX1 32 "DirtyTiles$Client" "dirtyTiles" "[I", Cond.fieldLink RX1 36 "DirtyTiles$Client" "dirtyCount" "I", Cond.fieldLink RX1 40 "DirtyTiles$Client" "messageTiles" "[I", Cond.fieldLink RX1 43 "DirtyTiles$Client" "messageCells" "[J", Cond.fieldLink RX1 47 "DirtyTiles$Client" "messageCount" "I", Cond.instanceMethod yX0_init, Cond.code yX0_init cX0_init 1 none, Cond.methodLink RX0 3 objectInit, Cond.fieldLink RX0 9 "DirtyTiles$Cache" "tiles" "[J", Cond.fieldLink RX0 15 "DirtyTiles$Cache" "count" "I"]
def wsX3_init : List Cond := .code yX3_init cX3_init 2 none :: ((wsX3_init_r1 ++ wsX3_init_r2) ++ wsX20 ++ wsX30 ++ wsX10 ++ wsX00)
def wsX3_isIndex : List Cond := .code yX3_isIndex cX3_isIndex 2 (some .boolean) :: ([])
def wsX3_isCell : List Cond := .code yX3_isCell cX3_isCell 2 (some .boolean) :: ([.methodLink RX3 42 yX3_isIndex, .static yX3_isIndex, .initialized RX3, .code yX3_isIndex cX3_isIndex 2 (some .boolean)])
def wsX3_isBetween : List Cond := .code yX3_isBetween cX3_isBetween 3 (some .boolean) :: ([])
def wsX3_isBox : List Cond := .code yX3_isBox cX3_isBox 4 (some .boolean) :: ([.methodLink RX3 62 yX3_isCell, .static yX3_isCell, .initialized RX3, .code yX3_isCell cX3_isCell 2 (some .boolean), .methodLink RX3 42 yX3_isIndex, .static yX3_isIndex, .code yX3_isIndex cX3_isIndex 2 (some .boolean), .methodLink RX3 58 yX3_isBetween, .static yX3_isBetween, .code yX3_isBetween cX3_isBetween 3 (some .boolean)])
def wsX3_requireArgument : List Cond := .code yX3_requireArgument cX3_requireArgument 1 none :: ([.classLink RX3 145 "java/lang/IllegalArgumentException", .initialized "java/lang/IllegalArgumentException"] ++ (vx_atS RX3 149 "java/lang/IllegalArgumentException" ["java/lang/RuntimeException", "java/lang/Exception"]).filter goodWord)
def wsX3_countDifferent : List Cond := .code yX3_countDifferent cX3_countDifferent 6 (some .int) :: ([.methodLink RX3 182 yX3_cellAt, .static yX3_cellAt, .initialized RX3, .code yX3_cellAt cX3_cellAt 3 (some .int), .constantLong RX3 180 (15)])
def wsX3_makeDirtyForAll : List Cond := .code yX3_makeDirtyForAll cX3_makeDirtyForAll 3 none :: ([.fieldLink RX3 21 "DirtyTiles" "clients" "[LDirtyTiles$Client;", .methodLink RX3 80 yX1_hasJoined, .instanceMethod yX1_hasJoined, .selects RX1 yX1_hasJoined yX1_hasJoined, .initialized RX1, .code yX1_hasJoined cX1_hasJoined 1 (some .boolean), .fieldLink RX1 9 "DirtyTiles$Client" "joined" "Z", .methodLink RX3 159 yX1_makeDirty, .instanceMethod yX1_makeDirty, .selects RX1 yX1_makeDirty yX1_makeDirty, .code yX1_makeDirty cX1_makeDirty 3 none, .fieldLink RX1 36 "DirtyTiles$Client" "dirtyCount" "I", .fieldLink RX1 32 "DirtyTiles$Client" "dirtyTiles" "[I"] ++ wsX30 ++ wsX10)
def wsX3_noteChanges_r1 : List Cond := [Cond.fieldLink RX3 16 "DirtyTiles" "screenBefore" "LDirtyTiles$Screen;", Cond.fieldLink RX3 10 "DirtyTiles" "screen" "LDirtyTiles$Screen;", Cond.methodLink RX3 69 yX2_cellsOf, Cond.instanceMethod yX2_cellsOf, Cond.selects RX2 yX2_cellsOf yX2_cellsOf, Cond.initialized RX2, Cond.code yX2_cellsOf cX2_cellsOf 2 (some .long), Cond.fieldLink RX2 9 "DirtyTiles$Screen" "tiles" "[J", Cond.methodLink RX3 118 yX3_countDifferent, Cond.static yX3_countDifferent, Cond.initialized RX3, Cond.code yX3_countDifferent cX3_countDifferent 6 (some .int), Cond.methodLink RX3 182 yX3_cellAt, Cond.static yX3_cellAt, Cond.code yX3_cellAt cX3_cellAt 3 (some .int), Cond.constantLong RX3 180 (15), Cond.methodLink RX3 155 yX3_makeDirtyForAll, Cond.instanceMethod yX3_makeDirtyForAll, Cond.selects RX3 yX3_makeDirtyForAll yX3_makeDirtyForAll, Cond.code yX3_makeDirtyForAll cX3_makeDirtyForAll 3 none, Cond.fieldLink RX3 21 "DirtyTiles" "clients" "[LDirtyTiles$Client;", Cond.methodLink RX3 80 yX1_hasJoined, Cond.instanceMethod yX1_hasJoined, Cond.selects RX1 yX1_hasJoined yX1_hasJoined]
def wsX3_noteChanges_r2 : List Cond := [Cond.initialized RX1, Cond.code yX1_hasJoined cX1_hasJoined 1 (some .boolean), Cond.fieldLink RX1 9 "DirtyTiles$Client" "joined" "Z", Cond.methodLink RX3 159 yX1_makeDirty, Cond.instanceMethod yX1_makeDirty, Cond.selects RX1 yX1_makeDirty yX1_makeDirty, Cond.code yX1_makeDirty cX1_makeDirty 3 none, Cond.fieldLink RX1 36 "DirtyTiles$Client" "dirtyCount" "I", Cond.fieldLink RX1 32 "DirtyTiles$Client" "dirtyTiles" "[I"]
def wsX3_noteChanges : List Cond := .code yX3_noteChanges cX3_noteChanges 4 (some .int) :: ((wsX3_noteChanges_r1 ++ wsX3_noteChanges_r2) ++ wsX30 ++ wsX20 ++ wsX10)
def wsX3_fill_r1 : List Cond := [Cond.fieldLink RX3 16 "DirtyTiles" "screenBefore" "LDirtyTiles$Screen;", Cond.fieldLink RX3 10 "DirtyTiles" "screen" "LDirtyTiles$Screen;", Cond.methodLink RX3 34 yX3_isBox, Cond.static yX3_isBox, Cond.initialized RX3, Cond.code yX3_isBox cX3_isBox 4 (some .boolean), Cond.methodLink RX3 62 yX3_isCell, Cond.static yX3_isCell, Cond.code yX3_isCell cX3_isCell 2 (some .boolean), Cond.methodLink RX3 42 yX3_isIndex, Cond.static yX3_isIndex, Cond.code yX3_isIndex cX3_isIndex 2 (some .boolean), Cond.methodLink RX3 58 yX3_isBetween, Cond.static yX3_isBetween, Cond.code yX3_isBetween cX3_isBetween 3 (some .boolean), Cond.methodLink RX3 38 yX3_requireArgument, Cond.static yX3_requireArgument, Cond.code yX3_requireArgument cX3_requireArgument 1 none, Cond.classLink RX3 145 "java/lang/IllegalArgumentException", Cond.initialized "java/lang/IllegalArgumentException", Cond.methodLink RX3 46 yX2_become, Cond.instanceMethod yX2_become, Cond.selects RX2 yX2_become yX2_become, Cond.initialized RX2]
def wsX3_fill_r2 : List Cond := [Cond.code yX2_become cX2_become 3 none, Cond.fieldLink RX2 9 "DirtyTiles$Screen" "tiles" "[J", Cond.methodLink RX3 50 yX2_paint, Cond.instanceMethod yX2_paint, Cond.selects RX2 yX2_paint yX2_paint, Cond.code yX2_paint cX2_paint 6 none, Cond.constantLong RX2 26 (15), Cond.constantLong RX2 28 (-1), Cond.methodLink RX2 15 yX2_tileOf, Cond.static yX2_tileOf, Cond.code yX2_tileOf cX2_tileOf 2 (some .int), Cond.methodLink RX2 19 yX2_placeInTile, Cond.static yX2_placeInTile, Cond.code yX2_placeInTile cX2_placeInTile 2 (some .int), Cond.methodLink RX3 54 yX3_noteChanges, Cond.instanceMethod yX3_noteChanges, Cond.selects RX3 yX3_noteChanges yX3_noteChanges, Cond.code yX3_noteChanges cX3_noteChanges 4 (some .int), Cond.methodLink RX3 69 yX2_cellsOf, Cond.instanceMethod yX2_cellsOf, Cond.selects RX2 yX2_cellsOf yX2_cellsOf, Cond.code yX2_cellsOf cX2_cellsOf 2 (some .long), Cond.methodLink RX3 118 yX3_countDifferent, Cond.static yX3_countDifferent]
def wsX3_fill_r3 : List Cond := [Cond.code yX3_countDifferent cX3_countDifferent 6 (some .int), Cond.methodLink RX3 182 yX3_cellAt, Cond.static yX3_cellAt, Cond.code yX3_cellAt cX3_cellAt 3 (some .int), Cond.constantLong RX3 180 (15), Cond.methodLink RX3 155 yX3_makeDirtyForAll, Cond.instanceMethod yX3_makeDirtyForAll, Cond.selects RX3 yX3_makeDirtyForAll yX3_makeDirtyForAll, Cond.code yX3_makeDirtyForAll cX3_makeDirtyForAll 3 none, Cond.fieldLink RX3 21 "DirtyTiles" "clients" "[LDirtyTiles$Client;", Cond.methodLink RX3 80 yX1_hasJoined, Cond.instanceMethod yX1_hasJoined, Cond.selects RX1 yX1_hasJoined yX1_hasJoined, Cond.initialized RX1, Cond.code yX1_hasJoined cX1_hasJoined 1 (some .boolean), Cond.fieldLink RX1 9 "DirtyTiles$Client" "joined" "Z", Cond.methodLink RX3 159 yX1_makeDirty, Cond.instanceMethod yX1_makeDirty, Cond.selects RX1 yX1_makeDirty yX1_makeDirty, Cond.code yX1_makeDirty cX1_makeDirty 3 none, Cond.fieldLink RX1 36 "DirtyTiles$Client" "dirtyCount" "I", Cond.fieldLink RX1 32 "DirtyTiles$Client" "dirtyTiles" "[I"]
def wsX3_fill : List Cond := .code yX3_fill cX3_fill 8 (some .int) :: ((wsX3_fill_r1 ++ (wsX3_fill_r2 ++ wsX3_fill_r3)) ++ wsX30 ++ wsX20 ++ wsX10 ++ (vx_atS RX3 149 "java/lang/IllegalArgumentException" ["java/lang/RuntimeException", "java/lang/Exception"]).filter goodWord)
def wsX3_copy_r1 : List Cond := [Cond.fieldLink RX3 16 "DirtyTiles" "screenBefore" "LDirtyTiles$Screen;", Cond.fieldLink RX3 10 "DirtyTiles" "screen" "LDirtyTiles$Screen;", Cond.methodLink RX3 34 yX3_isBox, Cond.static yX3_isBox, Cond.initialized RX3, Cond.code yX3_isBox cX3_isBox 4 (some .boolean), Cond.methodLink RX3 62 yX3_isCell, Cond.static yX3_isCell, Cond.code yX3_isCell cX3_isCell 2 (some .boolean), Cond.methodLink RX3 42 yX3_isIndex, Cond.static yX3_isIndex, Cond.code yX3_isIndex cX3_isIndex 2 (some .boolean), Cond.methodLink RX3 58 yX3_isBetween, Cond.static yX3_isBetween, Cond.code yX3_isBetween cX3_isBetween 3 (some .boolean), Cond.methodLink RX3 38 yX3_requireArgument, Cond.static yX3_requireArgument, Cond.code yX3_requireArgument cX3_requireArgument 1 none, Cond.classLink RX3 145 "java/lang/IllegalArgumentException", Cond.initialized "java/lang/IllegalArgumentException", Cond.methodLink RX3 46 yX2_become, Cond.instanceMethod yX2_become, Cond.selects RX2 yX2_become yX2_become, Cond.initialized RX2]
def wsX3_copy_r2 : List Cond := [Cond.code yX2_become cX2_become 3 none, Cond.fieldLink RX2 9 "DirtyTiles$Screen" "tiles" "[J", Cond.methodLink RX3 65 yX2_colourAt, Cond.instanceMethod yX2_colourAt, Cond.selects RX2 yX2_colourAt yX2_colourAt, Cond.code yX2_colourAt cX2_colourAt 3 (some .int), Cond.methodLink RX2 15 yX2_tileOf, Cond.static yX2_tileOf, Cond.code yX2_tileOf cX2_tileOf 2 (some .int), Cond.methodLink RX2 19 yX2_placeInTile, Cond.static yX2_placeInTile, Cond.code yX2_placeInTile cX2_placeInTile 2 (some .int), Cond.static yX3_cellAt, Cond.code yX3_cellAt cX3_cellAt 3 (some .int), Cond.constantLong RX3 180 (15), Cond.methodLink RX3 50 yX2_paint, Cond.instanceMethod yX2_paint, Cond.selects RX2 yX2_paint yX2_paint, Cond.code yX2_paint cX2_paint 6 none, Cond.constantLong RX2 26 (15), Cond.constantLong RX2 28 (-1), Cond.methodLink RX3 54 yX3_noteChanges, Cond.instanceMethod yX3_noteChanges, Cond.selects RX3 yX3_noteChanges yX3_noteChanges]
def wsX3_copy_r3 : List Cond := [Cond.code yX3_noteChanges cX3_noteChanges 4 (some .int), Cond.methodLink RX3 69 yX2_cellsOf, Cond.instanceMethod yX2_cellsOf, Cond.selects RX2 yX2_cellsOf yX2_cellsOf, Cond.code yX2_cellsOf cX2_cellsOf 2 (some .long), Cond.methodLink RX3 118 yX3_countDifferent, Cond.static yX3_countDifferent, Cond.code yX3_countDifferent cX3_countDifferent 6 (some .int), Cond.methodLink RX3 182 yX3_cellAt, Cond.methodLink RX3 155 yX3_makeDirtyForAll, Cond.instanceMethod yX3_makeDirtyForAll, Cond.selects RX3 yX3_makeDirtyForAll yX3_makeDirtyForAll, Cond.code yX3_makeDirtyForAll cX3_makeDirtyForAll 3 none, Cond.fieldLink RX3 21 "DirtyTiles" "clients" "[LDirtyTiles$Client;", Cond.methodLink RX3 80 yX1_hasJoined, Cond.instanceMethod yX1_hasJoined, Cond.selects RX1 yX1_hasJoined yX1_hasJoined, Cond.initialized RX1, Cond.code yX1_hasJoined cX1_hasJoined 1 (some .boolean), Cond.fieldLink RX1 9 "DirtyTiles$Client" "joined" "Z", Cond.methodLink RX3 159 yX1_makeDirty, Cond.instanceMethod yX1_makeDirty, Cond.selects RX1 yX1_makeDirty yX1_makeDirty, Cond.code yX1_makeDirty cX1_makeDirty 3 none]
def wsX3_copy_r4 : List Cond := [Cond.fieldLink RX1 36 "DirtyTiles$Client" "dirtyCount" "I", Cond.fieldLink RX1 32 "DirtyTiles$Client" "dirtyTiles" "[I"]
def wsX3_copy : List Cond := .code yX3_copy cX3_copy 9 (some .int) :: ((wsX3_copy_r1 ++ (wsX3_copy_r2 ++ (wsX3_copy_r3 ++ wsX3_copy_r4))) ++ wsX30 ++ wsX20 ++ wsX10 ++ (vx_atS RX3 149 "java/lang/IllegalArgumentException" ["java/lang/RuntimeException", "java/lang/Exception"]).filter goodWord)
def wsX3_colour_r1 : List Cond := [Cond.fieldLink RX3 10 "DirtyTiles" "screen" "LDirtyTiles$Screen;", Cond.methodLink RX3 62 yX3_isCell, Cond.static yX3_isCell, Cond.initialized RX3, Cond.code yX3_isCell cX3_isCell 2 (some .boolean), Cond.methodLink RX3 42 yX3_isIndex, Cond.static yX3_isIndex, Cond.code yX3_isIndex cX3_isIndex 2 (some .boolean), Cond.methodLink RX3 38 yX3_requireArgument, Cond.static yX3_requireArgument, Cond.code yX3_requireArgument cX3_requireArgument 1 none, Cond.classLink RX3 145 "java/lang/IllegalArgumentException", Cond.initialized "java/lang/IllegalArgumentException", Cond.methodLink RX3 65 yX2_colourAt, Cond.instanceMethod yX2_colourAt, Cond.selects RX2 yX2_colourAt yX2_colourAt, Cond.initialized RX2, Cond.code yX2_colourAt cX2_colourAt 3 (some .int), Cond.fieldLink RX2 9 "DirtyTiles$Screen" "tiles" "[J", Cond.methodLink RX2 15 yX2_tileOf, Cond.static yX2_tileOf, Cond.code yX2_tileOf cX2_tileOf 2 (some .int), Cond.methodLink RX2 19 yX2_placeInTile, Cond.static yX2_placeInTile]
def wsX3_colour_r2 : List Cond := [Cond.code yX2_placeInTile cX2_placeInTile 2 (some .int), Cond.static yX3_cellAt, Cond.code yX3_cellAt cX3_cellAt 3 (some .int), Cond.constantLong RX3 180 (15)]
def wsX3_colour : List Cond := .code yX3_colour cX3_colour 3 (some .int) :: ((wsX3_colour_r1 ++ wsX3_colour_r2) ++ wsX30 ++ wsX20 ++ (vx_atS RX3 149 "java/lang/IllegalArgumentException" ["java/lang/RuntimeException", "java/lang/Exception"]).filter goodWord)
def wsJ6_bitCount_0f7a4 : List Cond := .code yJ6_bitCount_0f7a4 cJ6_bitCount_0f7a4 1 (some .int) :: ([.constant RJ6 265 (1431655765), .constant RJ6 266 (858993459), .constant RJ6 267 (252645135)])
def wsX3_countColours : List Cond := .code yX3_countColours cX3_countColours 4 (some .int) :: ([.methodLink RX3 182 yX3_cellAt, .static yX3_cellAt, .initialized RX3, .code yX3_cellAt cX3_cellAt 3 (some .int), .constantLong RX3 180 (15), .methodLink RX3 186 yJ6_bitCount_0f7a4, .static yJ6_bitCount_0f7a4, .initialized RJ6, .code yJ6_bitCount_0f7a4 cJ6_bitCount_0f7a4 1 (some .int), .constant RJ6 265 (1431655765), .constant RJ6 266 (858993459), .constant RJ6 267 (252645135)])
def wsX3_colours_r1 : List Cond := [Cond.fieldLink RX3 10 "DirtyTiles" "screen" "LDirtyTiles$Screen;", Cond.methodLink RX3 42 yX3_isIndex, Cond.static yX3_isIndex, Cond.initialized RX3, Cond.code yX3_isIndex cX3_isIndex 2 (some .boolean), Cond.methodLink RX3 38 yX3_requireArgument, Cond.static yX3_requireArgument, Cond.code yX3_requireArgument cX3_requireArgument 1 none, Cond.classLink RX3 145 "java/lang/IllegalArgumentException", Cond.initialized "java/lang/IllegalArgumentException", Cond.methodLink RX3 69 yX2_cellsOf, Cond.instanceMethod yX2_cellsOf, Cond.selects RX2 yX2_cellsOf yX2_cellsOf, Cond.initialized RX2, Cond.code yX2_cellsOf cX2_cellsOf 2 (some .long), Cond.fieldLink RX2 9 "DirtyTiles$Screen" "tiles" "[J", Cond.methodLink RX3 73 yX3_countColours, Cond.static yX3_countColours, Cond.code yX3_countColours cX3_countColours 4 (some .int), Cond.methodLink RX3 182 yX3_cellAt, Cond.static yX3_cellAt, Cond.code yX3_cellAt cX3_cellAt 3 (some .int), Cond.constantLong RX3 180 (15), Cond.methodLink RX3 186 yJ6_bitCount_0f7a4]
def wsX3_colours_r2 : List Cond := [Cond.static yJ6_bitCount_0f7a4, Cond.initialized RJ6, Cond.code yJ6_bitCount_0f7a4 cJ6_bitCount_0f7a4 1 (some .int), Cond.constant RJ6 265 (1431655765), Cond.constant RJ6 266 (858993459), Cond.constant RJ6 267 (252645135)]
def wsX3_colours : List Cond := .code yX3_colours cX3_colours 2 (some .int) :: ((wsX3_colours_r1 ++ wsX3_colours_r2) ++ wsX30 ++ wsX20 ++ (vx_atS RX3 149 "java/lang/IllegalArgumentException" ["java/lang/RuntimeException", "java/lang/Exception"]).filter goodWord)
def wsX3_countRuns : List Cond := .code yX3_countRuns cX3_countRuns 4 (some .int) :: ([.methodLink RX3 182 yX3_cellAt, .static yX3_cellAt, .initialized RX3, .code yX3_cellAt cX3_cellAt 3 (some .int), .constantLong RX3 180 (15)])
def wsX3_runs : List Cond := .code yX3_runs cX3_runs 2 (some .int) :: ([.fieldLink RX3 10 "DirtyTiles" "screen" "LDirtyTiles$Screen;", .methodLink RX3 42 yX3_isIndex, .static yX3_isIndex, .initialized RX3, .code yX3_isIndex cX3_isIndex 2 (some .boolean), .methodLink RX3 38 yX3_requireArgument, .static yX3_requireArgument, .code yX3_requireArgument cX3_requireArgument 1 none, .classLink RX3 145 "java/lang/IllegalArgumentException", .initialized "java/lang/IllegalArgumentException", .methodLink RX3 69 yX2_cellsOf, .instanceMethod yX2_cellsOf, .selects RX2 yX2_cellsOf yX2_cellsOf, .initialized RX2, .code yX2_cellsOf cX2_cellsOf 2 (some .long), .fieldLink RX2 9 "DirtyTiles$Screen" "tiles" "[J", .methodLink RX3 77 yX3_countRuns, .static yX3_countRuns, .code yX3_countRuns cX3_countRuns 4 (some .int), .methodLink RX3 182 yX3_cellAt, .static yX3_cellAt, .code yX3_cellAt cX3_cellAt 3 (some .int), .constantLong RX3 180 (15)] ++ wsX30 ++ wsX20 ++ (vx_atS RX3 149 "java/lang/IllegalArgumentException" ["java/lang/RuntimeException", "java/lang/Exception"]).filter goodWord)
def wsX3_requireState : List Cond := .code yX3_requireState cX3_requireState 1 none :: ([.classLink RX3 150 "java/lang/IllegalStateException", .initialized "java/lang/IllegalStateException"] ++ (vx_atS RX3 154 "java/lang/IllegalStateException" ["java/lang/RuntimeException", "java/lang/Exception"]).filter goodWord)
def wsX3_unitsByColours : List Cond := .code yX3_unitsByColours cX3_unitsByColours 1 (some .int) :: ([])
def wsX3_unitsIn_r1 : List Cond := [Cond.methodLink RX3 173 yX0_holds, Cond.instanceMethod yX0_holds, Cond.selects RX0 yX0_holds yX0_holds, Cond.initialized RX0, Cond.code yX0_holds cX0_holds 3 (some .boolean), Cond.fieldLink RX0 15 "DirtyTiles$Cache" "count" "I", Cond.methodLink RX0 19 yX0_placeOf, Cond.instanceMethod yX0_placeOf, Cond.selects RX0 yX0_placeOf yX0_placeOf, Cond.code yX0_placeOf cX0_placeOf 4 (some .int), Cond.fieldLink RX0 9 "DirtyTiles$Cache" "tiles" "[J", Cond.methodLink RX3 73 yX3_countColours, Cond.static yX3_countColours, Cond.initialized RX3, Cond.code yX3_countColours cX3_countColours 4 (some .int), Cond.methodLink RX3 182 yX3_cellAt, Cond.static yX3_cellAt, Cond.code yX3_cellAt cX3_cellAt 3 (some .int), Cond.constantLong RX3 180 (15), Cond.methodLink RX3 186 yJ6_bitCount_0f7a4, Cond.static yJ6_bitCount_0f7a4, Cond.initialized RJ6, Cond.code yJ6_bitCount_0f7a4 cJ6_bitCount_0f7a4 1 (some .int), Cond.constant RJ6 265 (1431655765)]
def wsX3_unitsIn_r2 : List Cond := [Cond.constant RJ6 266 (858993459), Cond.constant RJ6 267 (252645135), Cond.methodLink RX3 177 yX3_unitsByColours, Cond.static yX3_unitsByColours, Cond.code yX3_unitsByColours cX3_unitsByColours 1 (some .int), Cond.methodLink RX3 77 yX3_countRuns, Cond.static yX3_countRuns, Cond.code yX3_countRuns cX3_countRuns 4 (some .int)]
def wsX3_unitsIn : List Cond := .code yX3_unitsIn cX3_unitsIn 4 (some .int) :: ((wsX3_unitsIn_r1 ++ wsX3_unitsIn_r2) ++ wsX00)
def wsX3_cheapestWriting_r1 : List Cond := [Cond.methodLink RX3 169 yX3_unitsIn, Cond.static yX3_unitsIn, Cond.initialized RX3, Cond.code yX3_unitsIn cX3_unitsIn 4 (some .int), Cond.methodLink RX3 173 yX0_holds, Cond.instanceMethod yX0_holds, Cond.selects RX0 yX0_holds yX0_holds, Cond.initialized RX0, Cond.code yX0_holds cX0_holds 3 (some .boolean), Cond.fieldLink RX0 15 "DirtyTiles$Cache" "count" "I", Cond.methodLink RX0 19 yX0_placeOf, Cond.instanceMethod yX0_placeOf, Cond.selects RX0 yX0_placeOf yX0_placeOf, Cond.code yX0_placeOf cX0_placeOf 4 (some .int), Cond.fieldLink RX0 9 "DirtyTiles$Cache" "tiles" "[J", Cond.methodLink RX3 73 yX3_countColours, Cond.static yX3_countColours, Cond.code yX3_countColours cX3_countColours 4 (some .int), Cond.methodLink RX3 182 yX3_cellAt, Cond.static yX3_cellAt, Cond.code yX3_cellAt cX3_cellAt 3 (some .int), Cond.constantLong RX3 180 (15), Cond.methodLink RX3 186 yJ6_bitCount_0f7a4, Cond.static yJ6_bitCount_0f7a4]
def wsX3_cheapestWriting_r2 : List Cond := [Cond.initialized RJ6, Cond.code yJ6_bitCount_0f7a4 cJ6_bitCount_0f7a4 1 (some .int), Cond.constant RJ6 265 (1431655765), Cond.constant RJ6 266 (858993459), Cond.constant RJ6 267 (252645135), Cond.methodLink RX3 177 yX3_unitsByColours, Cond.static yX3_unitsByColours, Cond.code yX3_unitsByColours cX3_unitsByColours 1 (some .int), Cond.methodLink RX3 77 yX3_countRuns, Cond.static yX3_countRuns, Cond.code yX3_countRuns cX3_countRuns 4 (some .int)]
def wsX3_cheapestWriting : List Cond := .code yX3_cheapestWriting cX3_cheapestWriting 7 (some .int) :: ((wsX3_cheapestWriting_r1 ++ wsX3_cheapestWriting_r2) ++ wsX00)
def wsX3_way_r1 : List Cond := [Cond.fieldLink RX3 21 "DirtyTiles" "clients" "[LDirtyTiles$Client;", Cond.fieldLink RX3 10 "DirtyTiles" "screen" "LDirtyTiles$Screen;", Cond.methodLink RX3 42 yX3_isIndex, Cond.static yX3_isIndex, Cond.initialized RX3, Cond.code yX3_isIndex cX3_isIndex 2 (some .boolean), Cond.methodLink RX3 38 yX3_requireArgument, Cond.static yX3_requireArgument, Cond.code yX3_requireArgument cX3_requireArgument 1 none, Cond.classLink RX3 145 "java/lang/IllegalArgumentException", Cond.initialized "java/lang/IllegalArgumentException", Cond.methodLink RX3 80 yX1_hasJoined, Cond.instanceMethod yX1_hasJoined, Cond.selects RX1 yX1_hasJoined yX1_hasJoined, Cond.initialized RX1, Cond.code yX1_hasJoined cX1_hasJoined 1 (some .boolean), Cond.fieldLink RX1 9 "DirtyTiles$Client" "joined" "Z", Cond.methodLink RX3 84 yX3_requireState, Cond.static yX3_requireState, Cond.code yX3_requireState cX3_requireState 1 none, Cond.classLink RX3 150 "java/lang/IllegalStateException", Cond.initialized "java/lang/IllegalStateException", Cond.methodLink RX3 69 yX2_cellsOf, Cond.instanceMethod yX2_cellsOf]
def wsX3_way_r2 : List Cond := [Cond.selects RX2 yX2_cellsOf yX2_cellsOf, Cond.initialized RX2, Cond.code yX2_cellsOf cX2_cellsOf 2 (some .long), Cond.fieldLink RX2 9 "DirtyTiles$Screen" "tiles" "[J", Cond.methodLink RX3 87 yX1_serverCache, Cond.instanceMethod yX1_serverCache, Cond.selects RX1 yX1_serverCache yX1_serverCache, Cond.code yX1_serverCache cX1_serverCache 1 (some (.object "DirtyTiles$Cache")), Cond.fieldLink RX1 29 "DirtyTiles$Client" "serverCache" "LDirtyTiles$Cache;", Cond.methodLink RX3 91 yX3_cheapestWriting, Cond.static yX3_cheapestWriting, Cond.code yX3_cheapestWriting cX3_cheapestWriting 7 (some .int), Cond.methodLink RX3 169 yX3_unitsIn, Cond.static yX3_unitsIn, Cond.code yX3_unitsIn cX3_unitsIn 4 (some .int), Cond.methodLink RX3 173 yX0_holds, Cond.instanceMethod yX0_holds, Cond.selects RX0 yX0_holds yX0_holds, Cond.initialized RX0, Cond.code yX0_holds cX0_holds 3 (some .boolean), Cond.fieldLink RX0 15 "DirtyTiles$Cache" "count" "I", Cond.methodLink RX0 19 yX0_placeOf, Cond.instanceMethod yX0_placeOf, Cond.selects RX0 yX0_placeOf yX0_placeOf]
def wsX3_way_r3 : List Cond := [Cond.code yX0_placeOf cX0_placeOf 4 (some .int), Cond.fieldLink RX0 9 "DirtyTiles$Cache" "tiles" "[J", Cond.methodLink RX3 73 yX3_countColours, Cond.static yX3_countColours, Cond.code yX3_countColours cX3_countColours 4 (some .int), Cond.methodLink RX3 182 yX3_cellAt, Cond.static yX3_cellAt, Cond.code yX3_cellAt cX3_cellAt 3 (some .int), Cond.constantLong RX3 180 (15), Cond.methodLink RX3 186 yJ6_bitCount_0f7a4, Cond.static yJ6_bitCount_0f7a4, Cond.initialized RJ6, Cond.code yJ6_bitCount_0f7a4 cJ6_bitCount_0f7a4 1 (some .int), Cond.constant RJ6 265 (1431655765), Cond.constant RJ6 266 (858993459), Cond.constant RJ6 267 (252645135), Cond.methodLink RX3 177 yX3_unitsByColours, Cond.static yX3_unitsByColours, Cond.code yX3_unitsByColours cX3_unitsByColours 1 (some .int), Cond.methodLink RX3 77 yX3_countRuns, Cond.static yX3_countRuns, Cond.code yX3_countRuns cX3_countRuns 4 (some .int)]
def wsX3_way : List Cond := .code yX3_way cX3_way 3 (some .int) :: ((wsX3_way_r1 ++ (wsX3_way_r2 ++ wsX3_way_r3)) ++ wsX30 ++ wsX10 ++ wsX20 ++ wsX00 ++ (vx_atS RX3 149 "java/lang/IllegalArgumentException" ["java/lang/RuntimeException", "java/lang/Exception"]).filter goodWord ++ (vx_atS RX3 154 "java/lang/IllegalStateException" ["java/lang/RuntimeException", "java/lang/Exception"]).filter goodWord)
def wsX3_join_r1 : List Cond := [Cond.fieldLink RX3 21 "DirtyTiles" "clients" "[LDirtyTiles$Client;", Cond.methodLink RX3 42 yX3_isIndex, Cond.static yX3_isIndex, Cond.initialized RX3, Cond.code yX3_isIndex cX3_isIndex 2 (some .boolean), Cond.methodLink RX3 38 yX3_requireArgument, Cond.static yX3_requireArgument, Cond.code yX3_requireArgument cX3_requireArgument 1 none, Cond.classLink RX3 145 "java/lang/IllegalArgumentException", Cond.initialized "java/lang/IllegalArgumentException", Cond.methodLink RX3 95 yX1_beginAnew, Cond.instanceMethod yX1_beginAnew, Cond.selects RX1 yX1_beginAnew yX1_beginAnew, Cond.initialized RX1, Cond.code yX1_beginAnew cX1_beginAnew 2 none, Cond.fieldLink RX1 9 "DirtyTiles$Client" "joined" "Z", Cond.fieldLink RX1 18 "DirtyTiles$Client" "ownScreen" "LDirtyTiles$Screen;", Cond.fieldLink RX1 25 "DirtyTiles$Client" "ownCache" "LDirtyTiles$Cache;", Cond.fieldLink RX1 29 "DirtyTiles$Client" "serverCache" "LDirtyTiles$Cache;", Cond.fieldLink RX1 47 "DirtyTiles$Client" "messageCount" "I", Cond.fieldLink RX1 32 "DirtyTiles$Client" "dirtyTiles" "[I", Cond.fieldLink RX1 36 "DirtyTiles$Client" "dirtyCount" "I", Cond.methodLink RX1 50 yX2_clear, Cond.instanceMethod yX2_clear]
def wsX3_join_r2 : List Cond := [Cond.selects RX2 yX2_clear yX2_clear, Cond.initialized RX2, Cond.code yX2_clear cX2_clear 2 none, Cond.fieldLink RX2 9 "DirtyTiles$Screen" "tiles" "[J", Cond.methodLink RX1 53 yX0_clear, Cond.instanceMethod yX0_clear, Cond.selects RX0 yX0_clear yX0_clear, Cond.initialized RX0, Cond.code yX0_clear cX0_clear 1 none, Cond.fieldLink RX0 15 "DirtyTiles$Cache" "count" "I", Cond.methodLink RX3 98 yX1_dirtyCount, Cond.instanceMethod yX1_dirtyCount, Cond.selects RX1 yX1_dirtyCount yX1_dirtyCount, Cond.code yX1_dirtyCount cX1_dirtyCount 1 (some .int)]
def wsX3_join : List Cond := .code yX3_join cX3_join 2 (some .int) :: ((wsX3_join_r1 ++ wsX3_join_r2) ++ wsX30 ++ wsX10 ++ wsX20 ++ wsX00 ++ (vx_atS RX3 149 "java/lang/IllegalArgumentException" ["java/lang/RuntimeException", "java/lang/Exception"]).filter goodWord)
def wsX3_writeMessage_r1 : List Cond := [Cond.fieldLink RX3 10 "DirtyTiles" "screen" "LDirtyTiles$Screen;", Cond.fieldLink RX3 25 "DirtyTiles" "tilesWritten" "[I", Cond.fieldLink RX3 29 "DirtyTiles" "unitsWritten" "I", Cond.methodLink RX3 98 yX1_dirtyCount, Cond.instanceMethod yX1_dirtyCount, Cond.selects RX1 yX1_dirtyCount yX1_dirtyCount, Cond.initialized RX1, Cond.code yX1_dirtyCount cX1_dirtyCount 1 (some .int), Cond.fieldLink RX1 36 "DirtyTiles$Client" "dirtyCount" "I", Cond.methodLink RX3 129 yX1_dirtyTileAt, Cond.instanceMethod yX1_dirtyTileAt, Cond.selects RX1 yX1_dirtyTileAt yX1_dirtyTileAt, Cond.code yX1_dirtyTileAt cX1_dirtyTileAt 2 (some .int), Cond.fieldLink RX1 32 "DirtyTiles$Client" "dirtyTiles" "[I", Cond.methodLink RX3 69 yX2_cellsOf, Cond.instanceMethod yX2_cellsOf, Cond.selects RX2 yX2_cellsOf yX2_cellsOf, Cond.initialized RX2, Cond.code yX2_cellsOf cX2_cellsOf 2 (some .long), Cond.fieldLink RX2 9 "DirtyTiles$Screen" "tiles" "[J", Cond.methodLink RX3 87 yX1_serverCache, Cond.instanceMethod yX1_serverCache, Cond.selects RX1 yX1_serverCache yX1_serverCache, Cond.code yX1_serverCache cX1_serverCache 1 (some (.object "DirtyTiles$Cache"))]
def wsX3_writeMessage_r2 : List Cond := [Cond.fieldLink RX1 29 "DirtyTiles$Client" "serverCache" "LDirtyTiles$Cache;", Cond.methodLink RX3 91 yX3_cheapestWriting, Cond.static yX3_cheapestWriting, Cond.initialized RX3, Cond.code yX3_cheapestWriting cX3_cheapestWriting 7 (some .int), Cond.methodLink RX3 169 yX3_unitsIn, Cond.static yX3_unitsIn, Cond.code yX3_unitsIn cX3_unitsIn 4 (some .int), Cond.methodLink RX3 173 yX0_holds, Cond.instanceMethod yX0_holds, Cond.selects RX0 yX0_holds yX0_holds, Cond.initialized RX0, Cond.code yX0_holds cX0_holds 3 (some .boolean), Cond.fieldLink RX0 15 "DirtyTiles$Cache" "count" "I", Cond.methodLink RX0 19 yX0_placeOf, Cond.instanceMethod yX0_placeOf, Cond.selects RX0 yX0_placeOf yX0_placeOf, Cond.code yX0_placeOf cX0_placeOf 4 (some .int), Cond.fieldLink RX0 9 "DirtyTiles$Cache" "tiles" "[J", Cond.methodLink RX3 73 yX3_countColours, Cond.static yX3_countColours, Cond.code yX3_countColours cX3_countColours 4 (some .int), Cond.methodLink RX3 182 yX3_cellAt, Cond.static yX3_cellAt]
def wsX3_writeMessage_r3 : List Cond := [Cond.code yX3_cellAt cX3_cellAt 3 (some .int), Cond.constantLong RX3 180 (15), Cond.methodLink RX3 186 yJ6_bitCount_0f7a4, Cond.static yJ6_bitCount_0f7a4, Cond.initialized RJ6, Cond.code yJ6_bitCount_0f7a4 cJ6_bitCount_0f7a4 1 (some .int), Cond.constant RJ6 265 (1431655765), Cond.constant RJ6 266 (858993459), Cond.constant RJ6 267 (252645135), Cond.methodLink RX3 177 yX3_unitsByColours, Cond.static yX3_unitsByColours, Cond.code yX3_unitsByColours cX3_unitsByColours 1 (some .int), Cond.methodLink RX3 77 yX3_countRuns, Cond.static yX3_countRuns, Cond.code yX3_countRuns cX3_countRuns 4 (some .int), Cond.methodLink RX3 162 yX1_addToMessage, Cond.instanceMethod yX1_addToMessage, Cond.selects RX1 yX1_addToMessage yX1_addToMessage, Cond.code yX1_addToMessage cX1_addToMessage 4 none, Cond.fieldLink RX1 47 "DirtyTiles$Client" "messageCount" "I", Cond.fieldLink RX1 40 "DirtyTiles$Client" "messageTiles" "[I", Cond.fieldLink RX1 43 "DirtyTiles$Client" "messageCells" "[J", Cond.methodLink RX1 54 yX0_bringToFront, Cond.instanceMethod yX0_bringToFront]
def wsX3_writeMessage_r4 : List Cond := [Cond.selects RX0 yX0_bringToFront yX0_bringToFront, Cond.code yX0_bringToFront cX0_bringToFront 5 none, Cond.methodLink RX0 23 Lib.Math.min.name, Cond.static Lib.Math.min.name, Cond.initialized "java/lang/Math", Cond.code Lib.Math.min.name Lib.Math.min.code 2 (some .int), Cond.methodLink RX3 166 yX1_cleanTilesOfMessage, Cond.instanceMethod yX1_cleanTilesOfMessage, Cond.selects RX1 yX1_cleanTilesOfMessage yX1_cleanTilesOfMessage, Cond.code yX1_cleanTilesOfMessage cX1_cleanTilesOfMessage 2 none]
def wsX3_writeMessage : List Cond := .code yX3_writeMessage cX3_writeMessage 11 none :: ((wsX3_writeMessage_r1 ++ (wsX3_writeMessage_r2 ++ (wsX3_writeMessage_r3 ++ wsX3_writeMessage_r4))) ++ wsX30 ++ wsX10 ++ wsX20 ++ wsX00)
def wsX3_ask_r1 : List Cond := [Cond.fieldLink RX3 21 "DirtyTiles" "clients" "[LDirtyTiles$Client;", Cond.methodLink RX3 42 yX3_isIndex, Cond.static yX3_isIndex, Cond.initialized RX3, Cond.code yX3_isIndex cX3_isIndex 2 (some .boolean), Cond.methodLink RX3 38 yX3_requireArgument, Cond.static yX3_requireArgument, Cond.code yX3_requireArgument cX3_requireArgument 1 none, Cond.classLink RX3 145 "java/lang/IllegalArgumentException", Cond.initialized "java/lang/IllegalArgumentException", Cond.methodLink RX3 58 yX3_isBetween, Cond.static yX3_isBetween, Cond.code yX3_isBetween cX3_isBetween 3 (some .boolean), Cond.methodLink RX3 80 yX1_hasJoined, Cond.instanceMethod yX1_hasJoined, Cond.selects RX1 yX1_hasJoined yX1_hasJoined, Cond.initialized RX1, Cond.code yX1_hasJoined cX1_hasJoined 1 (some .boolean), Cond.fieldLink RX1 9 "DirtyTiles$Client" "joined" "Z", Cond.methodLink RX3 84 yX3_requireState, Cond.static yX3_requireState, Cond.code yX3_requireState cX3_requireState 1 none, Cond.classLink RX3 150 "java/lang/IllegalStateException", Cond.initialized "java/lang/IllegalStateException"]
def wsX3_ask_r2 : List Cond := [Cond.methodLink RX3 101 yX1_hasMessage, Cond.instanceMethod yX1_hasMessage, Cond.selects RX1 yX1_hasMessage yX1_hasMessage, Cond.code yX1_hasMessage cX1_hasMessage 1 (some .boolean), Cond.fieldLink RX1 47 "DirtyTiles$Client" "messageCount" "I", Cond.methodLink RX3 104 yX3_writeMessage, Cond.instanceMethod yX3_writeMessage, Cond.selects RX3 yX3_writeMessage yX3_writeMessage, Cond.code yX3_writeMessage cX3_writeMessage 11 none, Cond.fieldLink RX3 10 "DirtyTiles" "screen" "LDirtyTiles$Screen;", Cond.fieldLink RX3 25 "DirtyTiles" "tilesWritten" "[I", Cond.fieldLink RX3 29 "DirtyTiles" "unitsWritten" "I", Cond.methodLink RX3 98 yX1_dirtyCount, Cond.instanceMethod yX1_dirtyCount, Cond.selects RX1 yX1_dirtyCount yX1_dirtyCount, Cond.code yX1_dirtyCount cX1_dirtyCount 1 (some .int), Cond.fieldLink RX1 36 "DirtyTiles$Client" "dirtyCount" "I", Cond.methodLink RX3 129 yX1_dirtyTileAt, Cond.instanceMethod yX1_dirtyTileAt, Cond.selects RX1 yX1_dirtyTileAt yX1_dirtyTileAt, Cond.code yX1_dirtyTileAt cX1_dirtyTileAt 2 (some .int), Cond.fieldLink RX1 32 "DirtyTiles$Client" "dirtyTiles" "[I", Cond.methodLink RX3 69 yX2_cellsOf, Cond.instanceMethod yX2_cellsOf]
def wsX3_ask_r3 : List Cond := [Cond.selects RX2 yX2_cellsOf yX2_cellsOf, Cond.initialized RX2, Cond.code yX2_cellsOf cX2_cellsOf 2 (some .long), Cond.fieldLink RX2 9 "DirtyTiles$Screen" "tiles" "[J", Cond.methodLink RX3 87 yX1_serverCache, Cond.instanceMethod yX1_serverCache, Cond.selects RX1 yX1_serverCache yX1_serverCache, Cond.code yX1_serverCache cX1_serverCache 1 (some (.object "DirtyTiles$Cache")), Cond.fieldLink RX1 29 "DirtyTiles$Client" "serverCache" "LDirtyTiles$Cache;", Cond.methodLink RX3 91 yX3_cheapestWriting, Cond.static yX3_cheapestWriting, Cond.code yX3_cheapestWriting cX3_cheapestWriting 7 (some .int), Cond.methodLink RX3 169 yX3_unitsIn, Cond.static yX3_unitsIn, Cond.code yX3_unitsIn cX3_unitsIn 4 (some .int), Cond.methodLink RX3 173 yX0_holds, Cond.instanceMethod yX0_holds, Cond.selects RX0 yX0_holds yX0_holds, Cond.initialized RX0, Cond.code yX0_holds cX0_holds 3 (some .boolean), Cond.fieldLink RX0 15 "DirtyTiles$Cache" "count" "I", Cond.methodLink RX0 19 yX0_placeOf, Cond.instanceMethod yX0_placeOf, Cond.selects RX0 yX0_placeOf yX0_placeOf]
def wsX3_ask_r4 : List Cond := [Cond.code yX0_placeOf cX0_placeOf 4 (some .int), Cond.fieldLink RX0 9 "DirtyTiles$Cache" "tiles" "[J", Cond.methodLink RX3 73 yX3_countColours, Cond.static yX3_countColours, Cond.code yX3_countColours cX3_countColours 4 (some .int), Cond.methodLink RX3 182 yX3_cellAt, Cond.static yX3_cellAt, Cond.code yX3_cellAt cX3_cellAt 3 (some .int), Cond.constantLong RX3 180 (15), Cond.methodLink RX3 186 yJ6_bitCount_0f7a4, Cond.static yJ6_bitCount_0f7a4, Cond.initialized RJ6, Cond.code yJ6_bitCount_0f7a4 cJ6_bitCount_0f7a4 1 (some .int), Cond.constant RJ6 265 (1431655765), Cond.constant RJ6 266 (858993459), Cond.constant RJ6 267 (252645135), Cond.methodLink RX3 177 yX3_unitsByColours, Cond.static yX3_unitsByColours, Cond.code yX3_unitsByColours cX3_unitsByColours 1 (some .int), Cond.methodLink RX3 77 yX3_countRuns, Cond.static yX3_countRuns, Cond.code yX3_countRuns cX3_countRuns 4 (some .int), Cond.methodLink RX3 162 yX1_addToMessage, Cond.instanceMethod yX1_addToMessage]
def wsX3_ask_r5 : List Cond := [Cond.selects RX1 yX1_addToMessage yX1_addToMessage, Cond.code yX1_addToMessage cX1_addToMessage 4 none, Cond.fieldLink RX1 40 "DirtyTiles$Client" "messageTiles" "[I", Cond.fieldLink RX1 43 "DirtyTiles$Client" "messageCells" "[J", Cond.methodLink RX1 54 yX0_bringToFront, Cond.instanceMethod yX0_bringToFront, Cond.selects RX0 yX0_bringToFront yX0_bringToFront, Cond.code yX0_bringToFront cX0_bringToFront 5 none, Cond.methodLink RX0 23 Lib.Math.min.name, Cond.static Lib.Math.min.name, Cond.initialized "java/lang/Math", Cond.code Lib.Math.min.name Lib.Math.min.code 2 (some .int), Cond.methodLink RX3 166 yX1_cleanTilesOfMessage, Cond.instanceMethod yX1_cleanTilesOfMessage, Cond.selects RX1 yX1_cleanTilesOfMessage yX1_cleanTilesOfMessage, Cond.code yX1_cleanTilesOfMessage cX1_cleanTilesOfMessage 2 none, Cond.methodLink RX3 108 yX1_messageCount, Cond.instanceMethod yX1_messageCount, Cond.selects RX1 yX1_messageCount yX1_messageCount, Cond.code yX1_messageCount cX1_messageCount 1 (some .int)]
def wsX3_ask : List Cond := .code yX3_ask cX3_ask 3 (some .int) :: ((wsX3_ask_r1 ++ (wsX3_ask_r2 ++ (wsX3_ask_r3 ++ (wsX3_ask_r4 ++ wsX3_ask_r5)))) ++ wsX30 ++ wsX10 ++ wsX20 ++ wsX00 ++ (vx_atS RX3 149 "java/lang/IllegalArgumentException" ["java/lang/RuntimeException", "java/lang/Exception"]).filter goodWord ++ (vx_atS RX3 154 "java/lang/IllegalStateException" ["java/lang/RuntimeException", "java/lang/Exception"]).filter goodWord)
def wsX3_answer_r1 : List Cond := [Cond.fieldLink RX3 21 "DirtyTiles" "clients" "[LDirtyTiles$Client;", Cond.methodLink RX3 42 yX3_isIndex, Cond.static yX3_isIndex, Cond.initialized RX3, Cond.code yX3_isIndex cX3_isIndex 2 (some .boolean), Cond.methodLink RX3 38 yX3_requireArgument, Cond.static yX3_requireArgument, Cond.code yX3_requireArgument cX3_requireArgument 1 none, Cond.classLink RX3 145 "java/lang/IllegalArgumentException", Cond.initialized "java/lang/IllegalArgumentException", Cond.methodLink RX3 80 yX1_hasJoined, Cond.instanceMethod yX1_hasJoined, Cond.selects RX1 yX1_hasJoined yX1_hasJoined, Cond.initialized RX1, Cond.code yX1_hasJoined cX1_hasJoined 1 (some .boolean), Cond.fieldLink RX1 9 "DirtyTiles$Client" "joined" "Z", Cond.methodLink RX3 84 yX3_requireState, Cond.static yX3_requireState, Cond.code yX3_requireState cX3_requireState 1 none, Cond.classLink RX3 150 "java/lang/IllegalStateException", Cond.initialized "java/lang/IllegalStateException", Cond.methodLink RX3 101 yX1_hasMessage, Cond.instanceMethod yX1_hasMessage, Cond.selects RX1 yX1_hasMessage yX1_hasMessage]
def wsX3_answer_r2 : List Cond := [Cond.code yX1_hasMessage cX1_hasMessage 1 (some .boolean), Cond.fieldLink RX1 47 "DirtyTiles$Client" "messageCount" "I", Cond.methodLink RX3 111 yX1_takeMessage, Cond.instanceMethod yX1_takeMessage, Cond.selects RX1 yX1_takeMessage yX1_takeMessage, Cond.code yX1_takeMessage cX1_takeMessage 3 (some .int), Cond.fieldLink RX1 18 "DirtyTiles$Client" "ownScreen" "LDirtyTiles$Screen;", Cond.fieldLink RX1 40 "DirtyTiles$Client" "messageTiles" "[I", Cond.fieldLink RX1 43 "DirtyTiles$Client" "messageCells" "[J", Cond.fieldLink RX1 25 "DirtyTiles$Client" "ownCache" "LDirtyTiles$Cache;", Cond.methodLink RX1 58 yX2_replaceTile, Cond.instanceMethod yX2_replaceTile, Cond.selects RX2 yX2_replaceTile yX2_replaceTile, Cond.initialized RX2, Cond.code yX2_replaceTile cX2_replaceTile 4 none, Cond.fieldLink RX2 9 "DirtyTiles$Screen" "tiles" "[J", Cond.methodLink RX1 54 yX0_bringToFront, Cond.instanceMethod yX0_bringToFront, Cond.selects RX0 yX0_bringToFront yX0_bringToFront, Cond.initialized RX0, Cond.code yX0_bringToFront cX0_bringToFront 5 none, Cond.fieldLink RX0 15 "DirtyTiles$Cache" "count" "I", Cond.methodLink RX0 23 Lib.Math.min.name, Cond.static Lib.Math.min.name]
def wsX3_answer_r3 : List Cond := [Cond.initialized "java/lang/Math", Cond.code Lib.Math.min.name Lib.Math.min.code 2 (some .int), Cond.fieldLink RX0 9 "DirtyTiles$Cache" "tiles" "[J", Cond.methodLink RX0 19 yX0_placeOf, Cond.instanceMethod yX0_placeOf, Cond.selects RX0 yX0_placeOf yX0_placeOf, Cond.code yX0_placeOf cX0_placeOf 4 (some .int)]
def wsX3_answer : List Cond := .code yX3_answer cX3_answer 2 (some .int) :: ((wsX3_answer_r1 ++ (wsX3_answer_r2 ++ wsX3_answer_r3)) ++ wsX30 ++ wsX10 ++ wsX20 ++ wsX00 ++ (vx_atS RX3 149 "java/lang/IllegalArgumentException" ["java/lang/RuntimeException", "java/lang/Exception"]).filter goodWord ++ (vx_atS RX3 154 "java/lang/IllegalStateException" ["java/lang/RuntimeException", "java/lang/Exception"]).filter goodWord)
def wsX3_shown_r1 : List Cond := [Cond.fieldLink RX3 21 "DirtyTiles" "clients" "[LDirtyTiles$Client;", Cond.methodLink RX3 42 yX3_isIndex, Cond.static yX3_isIndex, Cond.initialized RX3, Cond.code yX3_isIndex cX3_isIndex 2 (some .boolean), Cond.methodLink RX3 38 yX3_requireArgument, Cond.static yX3_requireArgument, Cond.code yX3_requireArgument cX3_requireArgument 1 none, Cond.classLink RX3 145 "java/lang/IllegalArgumentException", Cond.initialized "java/lang/IllegalArgumentException", Cond.methodLink RX3 62 yX3_isCell, Cond.static yX3_isCell, Cond.code yX3_isCell cX3_isCell 2 (some .boolean), Cond.methodLink RX3 80 yX1_hasJoined, Cond.instanceMethod yX1_hasJoined, Cond.selects RX1 yX1_hasJoined yX1_hasJoined, Cond.initialized RX1, Cond.code yX1_hasJoined cX1_hasJoined 1 (some .boolean), Cond.fieldLink RX1 9 "DirtyTiles$Client" "joined" "Z", Cond.methodLink RX3 84 yX3_requireState, Cond.static yX3_requireState, Cond.code yX3_requireState cX3_requireState 1 none, Cond.classLink RX3 150 "java/lang/IllegalStateException", Cond.initialized "java/lang/IllegalStateException"]
def wsX3_shown_r2 : List Cond := [Cond.methodLink RX3 114 yX1_ownScreen, Cond.instanceMethod yX1_ownScreen, Cond.selects RX1 yX1_ownScreen yX1_ownScreen, Cond.code yX1_ownScreen cX1_ownScreen 1 (some (.object "DirtyTiles$Screen")), Cond.fieldLink RX1 18 "DirtyTiles$Client" "ownScreen" "LDirtyTiles$Screen;", Cond.methodLink RX3 65 yX2_colourAt, Cond.instanceMethod yX2_colourAt, Cond.selects RX2 yX2_colourAt yX2_colourAt, Cond.initialized RX2, Cond.code yX2_colourAt cX2_colourAt 3 (some .int), Cond.fieldLink RX2 9 "DirtyTiles$Screen" "tiles" "[J", Cond.methodLink RX2 15 yX2_tileOf, Cond.static yX2_tileOf, Cond.code yX2_tileOf cX2_tileOf 2 (some .int), Cond.methodLink RX2 19 yX2_placeInTile, Cond.static yX2_placeInTile, Cond.code yX2_placeInTile cX2_placeInTile 2 (some .int), Cond.static yX3_cellAt, Cond.code yX3_cellAt cX3_cellAt 3 (some .int), Cond.constantLong RX3 180 (15)]
def wsX3_shown : List Cond := .code yX3_shown cX3_shown 4 (some .int) :: ((wsX3_shown_r1 ++ wsX3_shown_r2) ++ wsX30 ++ wsX10 ++ wsX20 ++ (vx_atS RX3 149 "java/lang/IllegalArgumentException" ["java/lang/RuntimeException", "java/lang/Exception"]).filter goodWord ++ (vx_atS RX3 154 "java/lang/IllegalStateException" ["java/lang/RuntimeException", "java/lang/Exception"]).filter goodWord)
def wsX3_unlike_r1 : List Cond := [Cond.fieldLink RX3 21 "DirtyTiles" "clients" "[LDirtyTiles$Client;", Cond.fieldLink RX3 10 "DirtyTiles" "screen" "LDirtyTiles$Screen;", Cond.methodLink RX3 42 yX3_isIndex, Cond.static yX3_isIndex, Cond.initialized RX3, Cond.code yX3_isIndex cX3_isIndex 2 (some .boolean), Cond.methodLink RX3 38 yX3_requireArgument, Cond.static yX3_requireArgument, Cond.code yX3_requireArgument cX3_requireArgument 1 none, Cond.classLink RX3 145 "java/lang/IllegalArgumentException", Cond.initialized "java/lang/IllegalArgumentException", Cond.methodLink RX3 80 yX1_hasJoined, Cond.instanceMethod yX1_hasJoined, Cond.selects RX1 yX1_hasJoined yX1_hasJoined, Cond.initialized RX1, Cond.code yX1_hasJoined cX1_hasJoined 1 (some .boolean), Cond.fieldLink RX1 9 "DirtyTiles$Client" "joined" "Z", Cond.methodLink RX3 84 yX3_requireState, Cond.static yX3_requireState, Cond.code yX3_requireState cX3_requireState 1 none, Cond.classLink RX3 150 "java/lang/IllegalStateException", Cond.initialized "java/lang/IllegalStateException", Cond.methodLink RX3 114 yX1_ownScreen, Cond.instanceMethod yX1_ownScreen]
def wsX3_unlike_r2 : List Cond := [Cond.selects RX1 yX1_ownScreen yX1_ownScreen, Cond.code yX1_ownScreen cX1_ownScreen 1 (some (.object "DirtyTiles$Screen")), Cond.fieldLink RX1 18 "DirtyTiles$Client" "ownScreen" "LDirtyTiles$Screen;", Cond.methodLink RX3 69 yX2_cellsOf, Cond.instanceMethod yX2_cellsOf, Cond.selects RX2 yX2_cellsOf yX2_cellsOf, Cond.initialized RX2, Cond.code yX2_cellsOf cX2_cellsOf 2 (some .long), Cond.fieldLink RX2 9 "DirtyTiles$Screen" "tiles" "[J", Cond.methodLink RX3 118 yX3_countDifferent, Cond.static yX3_countDifferent, Cond.code yX3_countDifferent cX3_countDifferent 6 (some .int), Cond.methodLink RX3 182 yX3_cellAt, Cond.static yX3_cellAt, Cond.code yX3_cellAt cX3_cellAt 3 (some .int), Cond.constantLong RX3 180 (15)]
def wsX3_unlike : List Cond := .code yX3_unlike cX3_unlike 5 (some .int) :: ((wsX3_unlike_r1 ++ wsX3_unlike_r2) ++ wsX30 ++ wsX10 ++ wsX20 ++ (vx_atS RX3 149 "java/lang/IllegalArgumentException" ["java/lang/RuntimeException", "java/lang/Exception"]).filter goodWord ++ (vx_atS RX3 154 "java/lang/IllegalStateException" ["java/lang/RuntimeException", "java/lang/Exception"]).filter goodWord)
def wsX3_dirty_r1 : List Cond := [Cond.fieldLink RX3 21 "DirtyTiles" "clients" "[LDirtyTiles$Client;", Cond.methodLink RX3 42 yX3_isIndex, Cond.static yX3_isIndex, Cond.initialized RX3, Cond.code yX3_isIndex cX3_isIndex 2 (some .boolean), Cond.methodLink RX3 38 yX3_requireArgument, Cond.static yX3_requireArgument, Cond.code yX3_requireArgument cX3_requireArgument 1 none, Cond.classLink RX3 145 "java/lang/IllegalArgumentException", Cond.initialized "java/lang/IllegalArgumentException", Cond.methodLink RX3 80 yX1_hasJoined, Cond.instanceMethod yX1_hasJoined, Cond.selects RX1 yX1_hasJoined yX1_hasJoined, Cond.initialized RX1, Cond.code yX1_hasJoined cX1_hasJoined 1 (some .boolean), Cond.fieldLink RX1 9 "DirtyTiles$Client" "joined" "Z", Cond.methodLink RX3 84 yX3_requireState, Cond.static yX3_requireState, Cond.code yX3_requireState cX3_requireState 1 none, Cond.classLink RX3 150 "java/lang/IllegalStateException", Cond.initialized "java/lang/IllegalStateException", Cond.methodLink RX3 98 yX1_dirtyCount, Cond.instanceMethod yX1_dirtyCount, Cond.selects RX1 yX1_dirtyCount yX1_dirtyCount]
def wsX3_dirty_r2 : List Cond := [Cond.code yX1_dirtyCount cX1_dirtyCount 1 (some .int), Cond.fieldLink RX1 36 "DirtyTiles$Client" "dirtyCount" "I"]
def wsX3_dirty : List Cond := .code yX3_dirty cX3_dirty 2 (some .int) :: ((wsX3_dirty_r1 ++ wsX3_dirty_r2) ++ wsX30 ++ wsX10 ++ (vx_atS RX3 149 "java/lang/IllegalArgumentException" ["java/lang/RuntimeException", "java/lang/Exception"]).filter goodWord ++ (vx_atS RX3 154 "java/lang/IllegalStateException" ["java/lang/RuntimeException", "java/lang/Exception"]).filter goodWord)
def wsX3_dirtyAt_r1 : List Cond := [Cond.classLink RX3 122 "java/lang/IndexOutOfBoundsException", Cond.initialized "java/lang/IndexOutOfBoundsException", Cond.fieldLink RX3 21 "DirtyTiles" "clients" "[LDirtyTiles$Client;", Cond.methodLink RX3 42 yX3_isIndex, Cond.static yX3_isIndex, Cond.initialized RX3, Cond.code yX3_isIndex cX3_isIndex 2 (some .boolean), Cond.methodLink RX3 38 yX3_requireArgument, Cond.static yX3_requireArgument, Cond.code yX3_requireArgument cX3_requireArgument 1 none, Cond.classLink RX3 145 "java/lang/IllegalArgumentException", Cond.initialized "java/lang/IllegalArgumentException", Cond.methodLink RX3 80 yX1_hasJoined, Cond.instanceMethod yX1_hasJoined, Cond.selects RX1 yX1_hasJoined yX1_hasJoined, Cond.initialized RX1, Cond.code yX1_hasJoined cX1_hasJoined 1 (some .boolean), Cond.fieldLink RX1 9 "DirtyTiles$Client" "joined" "Z", Cond.methodLink RX3 84 yX3_requireState, Cond.static yX3_requireState, Cond.code yX3_requireState cX3_requireState 1 none, Cond.classLink RX3 150 "java/lang/IllegalStateException", Cond.initialized "java/lang/IllegalStateException", Cond.methodLink RX3 98 yX1_dirtyCount]
def wsX3_dirtyAt_r2 : List Cond := [Cond.instanceMethod yX1_dirtyCount, Cond.selects RX1 yX1_dirtyCount yX1_dirtyCount, Cond.code yX1_dirtyCount cX1_dirtyCount 1 (some .int), Cond.fieldLink RX1 36 "DirtyTiles$Client" "dirtyCount" "I", Cond.methodLink RX3 129 yX1_dirtyTileAt, Cond.instanceMethod yX1_dirtyTileAt, Cond.selects RX1 yX1_dirtyTileAt yX1_dirtyTileAt, Cond.code yX1_dirtyTileAt cX1_dirtyTileAt 2 (some .int), Cond.fieldLink RX1 32 "DirtyTiles$Client" "dirtyTiles" "[I"]
def wsX3_dirtyAt : List Cond := .code yX3_dirtyAt cX3_dirtyAt 3 (some .int) :: ((wsX3_dirtyAt_r1 ++ wsX3_dirtyAt_r2) ++ wsX30 ++ wsX10 ++ (vx_atS RX3 126 "java/lang/IndexOutOfBoundsException" ["java/lang/RuntimeException", "java/lang/Exception"]).filter goodWord ++ (vx_atS RX3 149 "java/lang/IllegalArgumentException" ["java/lang/RuntimeException", "java/lang/Exception"]).filter goodWord ++ (vx_atS RX3 154 "java/lang/IllegalStateException" ["java/lang/RuntimeException", "java/lang/Exception"]).filter goodWord)
def wsX3_cached_r1 : List Cond := [Cond.fieldLink RX3 21 "DirtyTiles" "clients" "[LDirtyTiles$Client;", Cond.methodLink RX3 42 yX3_isIndex, Cond.static yX3_isIndex, Cond.initialized RX3, Cond.code yX3_isIndex cX3_isIndex 2 (some .boolean), Cond.methodLink RX3 38 yX3_requireArgument, Cond.static yX3_requireArgument, Cond.code yX3_requireArgument cX3_requireArgument 1 none, Cond.classLink RX3 145 "java/lang/IllegalArgumentException", Cond.initialized "java/lang/IllegalArgumentException", Cond.methodLink RX3 80 yX1_hasJoined, Cond.instanceMethod yX1_hasJoined, Cond.selects RX1 yX1_hasJoined yX1_hasJoined, Cond.initialized RX1, Cond.code yX1_hasJoined cX1_hasJoined 1 (some .boolean), Cond.fieldLink RX1 9 "DirtyTiles$Client" "joined" "Z", Cond.methodLink RX3 84 yX3_requireState, Cond.static yX3_requireState, Cond.code yX3_requireState cX3_requireState 1 none, Cond.classLink RX3 150 "java/lang/IllegalStateException", Cond.initialized "java/lang/IllegalStateException", Cond.methodLink RX3 133 yX1_ownCache, Cond.instanceMethod yX1_ownCache, Cond.selects RX1 yX1_ownCache yX1_ownCache]
def wsX3_cached_r2 : List Cond := [Cond.code yX1_ownCache cX1_ownCache 1 (some (.object "DirtyTiles$Cache")), Cond.fieldLink RX1 25 "DirtyTiles$Client" "ownCache" "LDirtyTiles$Cache;", Cond.methodLink RX3 136 yX0_size, Cond.instanceMethod yX0_size, Cond.selects RX0 yX0_size yX0_size, Cond.initialized RX0, Cond.code yX0_size cX0_size 1 (some .int), Cond.fieldLink RX0 15 "DirtyTiles$Cache" "count" "I"]
def wsX3_cached : List Cond := .code yX3_cached cX3_cached 2 (some .int) :: ((wsX3_cached_r1 ++ wsX3_cached_r2) ++ wsX30 ++ wsX10 ++ wsX00 ++ (vx_atS RX3 149 "java/lang/IllegalArgumentException" ["java/lang/RuntimeException", "java/lang/Exception"]).filter goodWord ++ (vx_atS RX3 154 "java/lang/IllegalStateException" ["java/lang/RuntimeException", "java/lang/Exception"]).filter goodWord)
def wsX3_isAlike_r1 : List Cond := [Cond.fieldLink RX3 21 "DirtyTiles" "clients" "[LDirtyTiles$Client;", Cond.methodLink RX3 42 yX3_isIndex, Cond.static yX3_isIndex, Cond.initialized RX3, Cond.code yX3_isIndex cX3_isIndex 2 (some .boolean), Cond.methodLink RX3 38 yX3_requireArgument, Cond.static yX3_requireArgument, Cond.code yX3_requireArgument cX3_requireArgument 1 none, Cond.classLink RX3 145 "java/lang/IllegalArgumentException", Cond.initialized "java/lang/IllegalArgumentException", Cond.methodLink RX3 80 yX1_hasJoined, Cond.instanceMethod yX1_hasJoined, Cond.selects RX1 yX1_hasJoined yX1_hasJoined, Cond.initialized RX1, Cond.code yX1_hasJoined cX1_hasJoined 1 (some .boolean), Cond.fieldLink RX1 9 "DirtyTiles$Client" "joined" "Z", Cond.methodLink RX3 84 yX3_requireState, Cond.static yX3_requireState, Cond.code yX3_requireState cX3_requireState 1 none, Cond.classLink RX3 150 "java/lang/IllegalStateException", Cond.initialized "java/lang/IllegalStateException", Cond.methodLink RX3 87 yX1_serverCache, Cond.instanceMethod yX1_serverCache, Cond.selects RX1 yX1_serverCache yX1_serverCache]
def wsX3_isAlike_r2 : List Cond := [Cond.code yX1_serverCache cX1_serverCache 1 (some (.object "DirtyTiles$Cache")), Cond.fieldLink RX1 29 "DirtyTiles$Client" "serverCache" "LDirtyTiles$Cache;", Cond.methodLink RX3 133 yX1_ownCache, Cond.instanceMethod yX1_ownCache, Cond.selects RX1 yX1_ownCache yX1_ownCache, Cond.code yX1_ownCache cX1_ownCache 1 (some (.object "DirtyTiles$Cache")), Cond.fieldLink RX1 25 "DirtyTiles$Client" "ownCache" "LDirtyTiles$Cache;", Cond.methodLink RX3 141 yX0_hasSameTilesAs, Cond.instanceMethod yX0_hasSameTilesAs, Cond.selects RX0 yX0_hasSameTilesAs yX0_hasSameTilesAs, Cond.initialized RX0, Cond.code yX0_hasSameTilesAs cX0_hasSameTilesAs 3 (some .boolean), Cond.fieldLink RX0 15 "DirtyTiles$Cache" "count" "I", Cond.fieldLink RX0 9 "DirtyTiles$Cache" "tiles" "[J"]
def wsX3_isAlike : List Cond := .code yX3_isAlike cX3_isAlike 2 (some .boolean) :: ((wsX3_isAlike_r1 ++ wsX3_isAlike_r2) ++ wsX30 ++ wsX10 ++ wsX00 ++ (vx_atS RX3 149 "java/lang/IllegalArgumentException" ["java/lang/RuntimeException", "java/lang/Exception"]).filter goodWord ++ (vx_atS RX3 154 "java/lang/IllegalStateException" ["java/lang/RuntimeException", "java/lang/Exception"]).filter goodWord)
def wsX3_written : List Cond := .code yX3_written cX3_written 2 (some .int) :: ([.fieldLink RX3 25 "DirtyTiles" "tilesWritten" "[I", .methodLink RX3 42 yX3_isIndex, .static yX3_isIndex, .initialized RX3, .code yX3_isIndex cX3_isIndex 2 (some .boolean), .methodLink RX3 38 yX3_requireArgument, .static yX3_requireArgument, .code yX3_requireArgument cX3_requireArgument 1 none, .classLink RX3 145 "java/lang/IllegalArgumentException", .initialized "java/lang/IllegalArgumentException"] ++ wsX30 ++ (vx_atS RX3 149 "java/lang/IllegalArgumentException" ["java/lang/RuntimeException", "java/lang/Exception"]).filter goodWord)
def wsX3_units : List Cond := .code yX3_units cX3_units 1 (some .int) :: ([.fieldLink RX3 29 "DirtyTiles" "unitsWritten" "I"] ++ wsX30)
def wsX4_init : List Cond := .code yX4_init cX4_init 1 none :: ([.methodLink RX4 1 objectInit, .instanceMethod objectInit, .code objectInit ⟨#[0xb1]⟩ 1 none, .arrayClass .int, .fieldLink RX4 7 "DirtyTilesModel" "screen" "[I", .fieldLink RX4 13 "DirtyTilesModel" "before" "[I", .arrayClass .boolean, .fieldLink RX4 16 "DirtyTilesModel" "isIn" "[Z", .fieldLink RX4 20 "DirtyTilesModel" "screens" "[I", .fieldLink RX4 23 "DirtyTilesModel" "caches" "[I", .fieldLink RX4 26 "DirtyTilesModel" "sizes" "[I", .fieldLink RX4 29 "DirtyTilesModel" "owns" "[I", .fieldLink RX4 32 "DirtyTilesModel" "ownSizes" "[I", .fieldLink RX4 35 "DirtyTilesModel" "dirty" "[I", .fieldLink RX4 38 "DirtyTilesModel" "many" "[I", .fieldLink RX4 41 "DirtyTilesModel" "sent" "[I", .fieldLink RX4 44 "DirtyTilesModel" "cells" "[I", .fieldLink RX4 47 "DirtyTilesModel" "waiting" "[I", .fieldLink RX4 50 "DirtyTilesModel" "written" "[I", .fieldLink RX4 53 "DirtyTilesModel" "tile" "[I"] ++ wsX40)
def wsX4_thrown : List Cond := .code yX4_thrown cX4_thrown 1 (some .int) :: ([.fieldLink RX4 56 "DirtyTilesModel" "thrown" "I"] ++ wsX40)
def wsX4_goesWell : List Cond := .code yX4_goesWell cX4_goesWell 2 (some .boolean) :: ([.fieldLink RX4 56 "DirtyTilesModel" "thrown" "I"] ++ wsX40)
def wsX4_in : List Cond := .code yX4_in cX4_in 3 (some .boolean) :: ([])
def wsX4_isClient : List Cond := .code yX4_isClient cX4_isClient 1 (some .boolean) :: ([.methodLink RX4 60 yX4_in, .static yX4_in, .initialized RX4, .code yX4_in cX4_in 3 (some .boolean)])
def wsX4_isTile : List Cond := .code yX4_isTile cX4_isTile 1 (some .boolean) :: ([.methodLink RX4 60 yX4_in, .static yX4_in, .initialized RX4, .code yX4_in cX4_in 3 (some .boolean)])
def wsX4_isCell : List Cond := .code yX4_isCell cX4_isCell 2 (some .boolean) :: ([.methodLink RX4 60 yX4_in, .static yX4_in, .initialized RX4, .code yX4_in cX4_in 3 (some .boolean)])
def wsX4_cellOf : List Cond := .code yX4_cellOf cX4_cellOf 2 (some .int) :: ([])
def wsX4_isBox : List Cond := .code yX4_isBox cX4_isBox 4 (some .boolean) :: ([.methodLink RX4 64 yX4_isCell, .static yX4_isCell, .initialized RX4, .code yX4_isCell cX4_isCell 2 (some .boolean), .methodLink RX4 60 yX4_in, .static yX4_in, .code yX4_in cX4_in 3 (some .boolean)])
def wsX4_keep : List Cond := .code yX4_keep cX4_keep 2 none :: ([.fieldLink RX4 13 "DirtyTilesModel" "before" "[I", .fieldLink RX4 7 "DirtyTilesModel" "screen" "[I"] ++ wsX40)
def wsX4_soil : List Cond := .code yX4_soil cX4_soil 5 none :: ([.fieldLink RX4 38 "DirtyTilesModel" "many" "[I", .fieldLink RX4 35 "DirtyTilesModel" "dirty" "[I"] ++ wsX40)
def wsX4_settle : List Cond := .code yX4_settle cX4_settle 6 (some .int) :: ([.fieldLink RX4 7 "DirtyTilesModel" "screen" "[I", .fieldLink RX4 13 "DirtyTilesModel" "before" "[I", .fieldLink RX4 16 "DirtyTilesModel" "isIn" "[Z", .methodLink RX4 68 yX4_cellOf, .static yX4_cellOf, .initialized RX4, .code yX4_cellOf cX4_cellOf 2 (some .int), .methodLink RX4 72 yX4_soil, .instanceMethod yX4_soil, .selects RX4 yX4_soil yX4_soil, .code yX4_soil cX4_soil 5 none, .fieldLink RX4 38 "DirtyTilesModel" "many" "[I", .fieldLink RX4 35 "DirtyTilesModel" "dirty" "[I"] ++ wsX40)
def wsX4_fill_r1 : List Cond := [Cond.fieldLink RX4 7 "DirtyTilesModel" "screen" "[I", Cond.methodLink RX4 76 yX4_isBox, Cond.static yX4_isBox, Cond.initialized RX4, Cond.code yX4_isBox cX4_isBox 4 (some .boolean), Cond.methodLink RX4 64 yX4_isCell, Cond.static yX4_isCell, Cond.code yX4_isCell cX4_isCell 2 (some .boolean), Cond.methodLink RX4 60 yX4_in, Cond.static yX4_in, Cond.code yX4_in cX4_in 3 (some .boolean), Cond.methodLink RX4 80 yX4_goesWell, Cond.instanceMethod yX4_goesWell, Cond.selects RX4 yX4_goesWell yX4_goesWell, Cond.code yX4_goesWell cX4_goesWell 2 (some .boolean), Cond.fieldLink RX4 56 "DirtyTilesModel" "thrown" "I", Cond.methodLink RX4 84 yX4_keep, Cond.instanceMethod yX4_keep, Cond.selects RX4 yX4_keep yX4_keep, Cond.code yX4_keep cX4_keep 2 none, Cond.fieldLink RX4 13 "DirtyTilesModel" "before" "[I", Cond.methodLink RX4 87 yX4_settle, Cond.instanceMethod yX4_settle, Cond.selects RX4 yX4_settle yX4_settle]
def wsX4_fill_r2 : List Cond := [Cond.code yX4_settle cX4_settle 6 (some .int), Cond.fieldLink RX4 16 "DirtyTilesModel" "isIn" "[Z", Cond.methodLink RX4 68 yX4_cellOf, Cond.static yX4_cellOf, Cond.code yX4_cellOf cX4_cellOf 2 (some .int), Cond.methodLink RX4 72 yX4_soil, Cond.instanceMethod yX4_soil, Cond.selects RX4 yX4_soil yX4_soil, Cond.code yX4_soil cX4_soil 5 none, Cond.fieldLink RX4 38 "DirtyTilesModel" "many" "[I", Cond.fieldLink RX4 35 "DirtyTilesModel" "dirty" "[I"]
def wsX4_fill : List Cond := .code yX4_fill cX4_fill 7 (some .int) :: ((wsX4_fill_r1 ++ wsX4_fill_r2) ++ wsX40)
def wsX4_copy_r1 : List Cond := [Cond.fieldLink RX4 7 "DirtyTilesModel" "screen" "[I", Cond.fieldLink RX4 13 "DirtyTilesModel" "before" "[I", Cond.methodLink RX4 76 yX4_isBox, Cond.static yX4_isBox, Cond.initialized RX4, Cond.code yX4_isBox cX4_isBox 4 (some .boolean), Cond.methodLink RX4 64 yX4_isCell, Cond.static yX4_isCell, Cond.code yX4_isCell cX4_isCell 2 (some .boolean), Cond.methodLink RX4 60 yX4_in, Cond.static yX4_in, Cond.code yX4_in cX4_in 3 (some .boolean), Cond.methodLink RX4 80 yX4_goesWell, Cond.instanceMethod yX4_goesWell, Cond.selects RX4 yX4_goesWell yX4_goesWell, Cond.code yX4_goesWell cX4_goesWell 2 (some .boolean), Cond.fieldLink RX4 56 "DirtyTilesModel" "thrown" "I", Cond.methodLink RX4 84 yX4_keep, Cond.instanceMethod yX4_keep, Cond.selects RX4 yX4_keep yX4_keep, Cond.code yX4_keep cX4_keep 2 none, Cond.methodLink RX4 87 yX4_settle, Cond.instanceMethod yX4_settle, Cond.selects RX4 yX4_settle yX4_settle]
def wsX4_copy_r2 : List Cond := [Cond.code yX4_settle cX4_settle 6 (some .int), Cond.fieldLink RX4 16 "DirtyTilesModel" "isIn" "[Z", Cond.methodLink RX4 68 yX4_cellOf, Cond.static yX4_cellOf, Cond.code yX4_cellOf cX4_cellOf 2 (some .int), Cond.methodLink RX4 72 yX4_soil, Cond.instanceMethod yX4_soil, Cond.selects RX4 yX4_soil yX4_soil, Cond.code yX4_soil cX4_soil 5 none, Cond.fieldLink RX4 38 "DirtyTilesModel" "many" "[I", Cond.fieldLink RX4 35 "DirtyTilesModel" "dirty" "[I"]
def wsX4_copy : List Cond := .code yX4_copy cX4_copy 10 (some .int) :: ((wsX4_copy_r1 ++ wsX4_copy_r2) ++ wsX40)
def wsX4_colour : List Cond := .code yX4_colour cX4_colour 3 (some .int) :: ([.fieldLink RX4 7 "DirtyTilesModel" "screen" "[I", .methodLink RX4 64 yX4_isCell, .static yX4_isCell, .initialized RX4, .code yX4_isCell cX4_isCell 2 (some .boolean), .methodLink RX4 60 yX4_in, .static yX4_in, .code yX4_in cX4_in 3 (some .boolean), .methodLink RX4 80 yX4_goesWell, .instanceMethod yX4_goesWell, .selects RX4 yX4_goesWell yX4_goesWell, .code yX4_goesWell cX4_goesWell 2 (some .boolean), .fieldLink RX4 56 "DirtyTilesModel" "thrown" "I"] ++ wsX40)
def wsX4_look : List Cond := .code yX4_look cX4_look 3 none :: ([.fieldLink RX4 53 "DirtyTilesModel" "tile" "[I", .fieldLink RX4 7 "DirtyTilesModel" "screen" "[I", .methodLink RX4 68 yX4_cellOf, .static yX4_cellOf, .initialized RX4, .code yX4_cellOf cX4_cellOf 2 (some .int)] ++ wsX40)
def wsX4_countColours : List Cond := .code yX4_countColours cX4_countColours 4 (some .int) :: ([.fieldLink RX4 53 "DirtyTilesModel" "tile" "[I"] ++ wsX40)
def wsX4_countRuns : List Cond := .code yX4_countRuns cX4_countRuns 3 (some .int) :: ([.fieldLink RX4 53 "DirtyTilesModel" "tile" "[I"] ++ wsX40)
def wsX4_colours_r1 : List Cond := [Cond.methodLink RX4 91 yX4_isTile, Cond.static yX4_isTile, Cond.initialized RX4, Cond.code yX4_isTile cX4_isTile 1 (some .boolean), Cond.methodLink RX4 60 yX4_in, Cond.static yX4_in, Cond.code yX4_in cX4_in 3 (some .boolean), Cond.methodLink RX4 80 yX4_goesWell, Cond.instanceMethod yX4_goesWell, Cond.selects RX4 yX4_goesWell yX4_goesWell, Cond.code yX4_goesWell cX4_goesWell 2 (some .boolean), Cond.fieldLink RX4 56 "DirtyTilesModel" "thrown" "I", Cond.methodLink RX4 94 yX4_look, Cond.instanceMethod yX4_look, Cond.selects RX4 yX4_look yX4_look, Cond.code yX4_look cX4_look 3 none, Cond.fieldLink RX4 53 "DirtyTilesModel" "tile" "[I", Cond.fieldLink RX4 7 "DirtyTilesModel" "screen" "[I", Cond.methodLink RX4 68 yX4_cellOf, Cond.static yX4_cellOf, Cond.code yX4_cellOf cX4_cellOf 2 (some .int), Cond.methodLink RX4 98 yX4_countColours, Cond.instanceMethod yX4_countColours, Cond.selects RX4 yX4_countColours yX4_countColours]
def wsX4_colours_r2 : List Cond := [Cond.code yX4_countColours cX4_countColours 4 (some .int)]
def wsX4_colours : List Cond := .code yX4_colours cX4_colours 2 (some .int) :: ((wsX4_colours_r1 ++ wsX4_colours_r2) ++ wsX40)
def wsX4_runs_r1 : List Cond := [Cond.methodLink RX4 91 yX4_isTile, Cond.static yX4_isTile, Cond.initialized RX4, Cond.code yX4_isTile cX4_isTile 1 (some .boolean), Cond.methodLink RX4 60 yX4_in, Cond.static yX4_in, Cond.code yX4_in cX4_in 3 (some .boolean), Cond.methodLink RX4 80 yX4_goesWell, Cond.instanceMethod yX4_goesWell, Cond.selects RX4 yX4_goesWell yX4_goesWell, Cond.code yX4_goesWell cX4_goesWell 2 (some .boolean), Cond.fieldLink RX4 56 "DirtyTilesModel" "thrown" "I", Cond.methodLink RX4 94 yX4_look, Cond.instanceMethod yX4_look, Cond.selects RX4 yX4_look yX4_look, Cond.code yX4_look cX4_look 3 none, Cond.fieldLink RX4 53 "DirtyTilesModel" "tile" "[I", Cond.fieldLink RX4 7 "DirtyTilesModel" "screen" "[I", Cond.methodLink RX4 68 yX4_cellOf, Cond.static yX4_cellOf, Cond.code yX4_cellOf cX4_cellOf 2 (some .int), Cond.methodLink RX4 101 yX4_countRuns, Cond.instanceMethod yX4_countRuns, Cond.selects RX4 yX4_countRuns yX4_countRuns]
def wsX4_runs_r2 : List Cond := [Cond.code yX4_countRuns cX4_countRuns 3 (some .int)]
def wsX4_runs : List Cond := .code yX4_runs cX4_runs 2 (some .int) :: ((wsX4_runs_r1 ++ wsX4_runs_r2) ++ wsX40)
def wsX4_find : List Cond := .code yX4_find cX4_find 5 (some .int) :: ([.fieldLink RX4 26 "DirtyTilesModel" "sizes" "[I", .fieldLink RX4 23 "DirtyTilesModel" "caches" "[I", .fieldLink RX4 53 "DirtyTilesModel" "tile" "[I"] ++ wsX40)
def wsX4_better : List Cond := .code yX4_better cX4_better 3 (some .int) :: ([])
def wsX4_wayOf : List Cond := .code yX4_wayOf cX4_wayOf 4 (some .int) :: ([.methodLink RX4 98 yX4_countColours, .instanceMethod yX4_countColours, .selects RX4 yX4_countColours yX4_countColours, .initialized RX4, .code yX4_countColours cX4_countColours 4 (some .int), .fieldLink RX4 53 "DirtyTilesModel" "tile" "[I", .methodLink RX4 104 yX4_find, .instanceMethod yX4_find, .selects RX4 yX4_find yX4_find, .code yX4_find cX4_find 5 (some .int), .fieldLink RX4 26 "DirtyTilesModel" "sizes" "[I", .fieldLink RX4 23 "DirtyTilesModel" "caches" "[I", .methodLink RX4 108 yX4_better, .static yX4_better, .code yX4_better cX4_better 3 (some .int), .methodLink RX4 60 yX4_in, .static yX4_in, .code yX4_in cX4_in 3 (some .boolean), .methodLink RX4 101 yX4_countRuns, .instanceMethod yX4_countRuns, .selects RX4 yX4_countRuns yX4_countRuns, .code yX4_countRuns cX4_countRuns 3 (some .int)] ++ wsX40)
def wsX4_way_r1 : List Cond := [Cond.fieldLink RX4 16 "DirtyTilesModel" "isIn" "[Z", Cond.methodLink RX4 112 yX4_isClient, Cond.static yX4_isClient, Cond.initialized RX4, Cond.code yX4_isClient cX4_isClient 1 (some .boolean), Cond.methodLink RX4 60 yX4_in, Cond.static yX4_in, Cond.code yX4_in cX4_in 3 (some .boolean), Cond.methodLink RX4 91 yX4_isTile, Cond.static yX4_isTile, Cond.code yX4_isTile cX4_isTile 1 (some .boolean), Cond.methodLink RX4 80 yX4_goesWell, Cond.instanceMethod yX4_goesWell, Cond.selects RX4 yX4_goesWell yX4_goesWell, Cond.code yX4_goesWell cX4_goesWell 2 (some .boolean), Cond.fieldLink RX4 56 "DirtyTilesModel" "thrown" "I", Cond.methodLink RX4 94 yX4_look, Cond.instanceMethod yX4_look, Cond.selects RX4 yX4_look yX4_look, Cond.code yX4_look cX4_look 3 none, Cond.fieldLink RX4 53 "DirtyTilesModel" "tile" "[I", Cond.fieldLink RX4 7 "DirtyTilesModel" "screen" "[I", Cond.methodLink RX4 68 yX4_cellOf, Cond.static yX4_cellOf]
def wsX4_way_r2 : List Cond := [Cond.code yX4_cellOf cX4_cellOf 2 (some .int), Cond.methodLink RX4 115 yX4_wayOf, Cond.instanceMethod yX4_wayOf, Cond.selects RX4 yX4_wayOf yX4_wayOf, Cond.code yX4_wayOf cX4_wayOf 4 (some .int), Cond.methodLink RX4 98 yX4_countColours, Cond.instanceMethod yX4_countColours, Cond.selects RX4 yX4_countColours yX4_countColours, Cond.code yX4_countColours cX4_countColours 4 (some .int), Cond.methodLink RX4 104 yX4_find, Cond.instanceMethod yX4_find, Cond.selects RX4 yX4_find yX4_find, Cond.code yX4_find cX4_find 5 (some .int), Cond.fieldLink RX4 26 "DirtyTilesModel" "sizes" "[I", Cond.fieldLink RX4 23 "DirtyTilesModel" "caches" "[I", Cond.methodLink RX4 108 yX4_better, Cond.static yX4_better, Cond.code yX4_better cX4_better 3 (some .int), Cond.methodLink RX4 101 yX4_countRuns, Cond.instanceMethod yX4_countRuns, Cond.selects RX4 yX4_countRuns yX4_countRuns, Cond.code yX4_countRuns cX4_countRuns 3 (some .int)]
def wsX4_way : List Cond := .code yX4_way cX4_way 4 (some .int) :: ((wsX4_way_r1 ++ wsX4_way_r2) ++ wsX40)
def wsX4_join : List Cond := .code yX4_join cX4_join 3 (some .int) :: ([.fieldLink RX4 16 "DirtyTilesModel" "isIn" "[Z", .fieldLink RX4 26 "DirtyTilesModel" "sizes" "[I", .fieldLink RX4 32 "DirtyTilesModel" "ownSizes" "[I", .fieldLink RX4 47 "DirtyTilesModel" "waiting" "[I", .fieldLink RX4 38 "DirtyTilesModel" "many" "[I", .fieldLink RX4 35 "DirtyTilesModel" "dirty" "[I", .fieldLink RX4 20 "DirtyTilesModel" "screens" "[I", .methodLink RX4 112 yX4_isClient, .static yX4_isClient, .initialized RX4, .code yX4_isClient cX4_isClient 1 (some .boolean), .methodLink RX4 60 yX4_in, .static yX4_in, .code yX4_in cX4_in 3 (some .boolean), .methodLink RX4 80 yX4_goesWell, .instanceMethod yX4_goesWell, .selects RX4 yX4_goesWell yX4_goesWell, .code yX4_goesWell cX4_goesWell 2 (some .boolean), .fieldLink RX4 56 "DirtyTilesModel" "thrown" "I"] ++ wsX40)
def wsX4_shift : List Cond := .code yX4_shift cX4_shift 5 none :: ([.fieldLink RX4 53 "DirtyTilesModel" "tile" "[I"] ++ wsX40)
def wsX4_findOwn : List Cond := .code yX4_findOwn cX4_findOwn 5 (some .int) :: ([.fieldLink RX4 32 "DirtyTilesModel" "ownSizes" "[I", .fieldLink RX4 29 "DirtyTilesModel" "owns" "[I", .fieldLink RX4 53 "DirtyTilesModel" "tile" "[I"] ++ wsX40)
def wsX4_cache : List Cond := .code yX4_cache cX4_cache 3 none :: ([.fieldLink RX4 23 "DirtyTilesModel" "caches" "[I", .fieldLink RX4 26 "DirtyTilesModel" "sizes" "[I", .methodLink RX4 104 yX4_find, .instanceMethod yX4_find, .selects RX4 yX4_find yX4_find, .initialized RX4, .code yX4_find cX4_find 5 (some .int), .fieldLink RX4 53 "DirtyTilesModel" "tile" "[I", .methodLink RX4 118 yX4_shift, .instanceMethod yX4_shift, .selects RX4 yX4_shift yX4_shift, .code yX4_shift cX4_shift 5 none] ++ wsX40)
def wsX4_cacheOwn : List Cond := .code yX4_cacheOwn cX4_cacheOwn 3 none :: ([.fieldLink RX4 29 "DirtyTilesModel" "owns" "[I", .fieldLink RX4 32 "DirtyTilesModel" "ownSizes" "[I", .methodLink RX4 122 yX4_findOwn, .instanceMethod yX4_findOwn, .selects RX4 yX4_findOwn yX4_findOwn, .initialized RX4, .code yX4_findOwn cX4_findOwn 5 (some .int), .fieldLink RX4 53 "DirtyTilesModel" "tile" "[I", .methodLink RX4 118 yX4_shift, .instanceMethod yX4_shift, .selects RX4 yX4_shift yX4_shift, .code yX4_shift cX4_shift 5 none] ++ wsX40)
def wsX4_write_r1 : List Cond := [Cond.fieldLink RX4 35 "DirtyTilesModel" "dirty" "[I", Cond.fieldLink RX4 50 "DirtyTilesModel" "written" "[I", Cond.fieldLink RX4 128 "DirtyTilesModel" "units" "I", Cond.fieldLink RX4 47 "DirtyTilesModel" "waiting" "[I", Cond.fieldLink RX4 41 "DirtyTilesModel" "sent" "[I", Cond.fieldLink RX4 44 "DirtyTilesModel" "cells" "[I", Cond.fieldLink RX4 53 "DirtyTilesModel" "tile" "[I", Cond.fieldLink RX4 38 "DirtyTilesModel" "many" "[I", Cond.methodLink RX4 94 yX4_look, Cond.instanceMethod yX4_look, Cond.selects RX4 yX4_look yX4_look, Cond.initialized RX4, Cond.code yX4_look cX4_look 3 none, Cond.fieldLink RX4 7 "DirtyTilesModel" "screen" "[I", Cond.methodLink RX4 68 yX4_cellOf, Cond.static yX4_cellOf, Cond.code yX4_cellOf cX4_cellOf 2 (some .int), Cond.methodLink RX4 115 yX4_wayOf, Cond.instanceMethod yX4_wayOf, Cond.selects RX4 yX4_wayOf yX4_wayOf, Cond.code yX4_wayOf cX4_wayOf 4 (some .int), Cond.methodLink RX4 98 yX4_countColours, Cond.instanceMethod yX4_countColours, Cond.selects RX4 yX4_countColours yX4_countColours]
def wsX4_write_r2 : List Cond := [Cond.code yX4_countColours cX4_countColours 4 (some .int), Cond.methodLink RX4 104 yX4_find, Cond.instanceMethod yX4_find, Cond.selects RX4 yX4_find yX4_find, Cond.code yX4_find cX4_find 5 (some .int), Cond.fieldLink RX4 26 "DirtyTilesModel" "sizes" "[I", Cond.fieldLink RX4 23 "DirtyTilesModel" "caches" "[I", Cond.methodLink RX4 108 yX4_better, Cond.static yX4_better, Cond.code yX4_better cX4_better 3 (some .int), Cond.methodLink RX4 60 yX4_in, Cond.static yX4_in, Cond.code yX4_in cX4_in 3 (some .boolean), Cond.methodLink RX4 101 yX4_countRuns, Cond.instanceMethod yX4_countRuns, Cond.selects RX4 yX4_countRuns yX4_countRuns, Cond.code yX4_countRuns cX4_countRuns 3 (some .int), Cond.methodLink RX4 125 yX4_cache, Cond.instanceMethod yX4_cache, Cond.selects RX4 yX4_cache yX4_cache, Cond.code yX4_cache cX4_cache 3 none, Cond.methodLink RX4 118 yX4_shift, Cond.instanceMethod yX4_shift, Cond.selects RX4 yX4_shift yX4_shift]
def wsX4_write_r3 : List Cond := [Cond.code yX4_shift cX4_shift 5 none]
def wsX4_write : List Cond := .code yX4_write cX4_write 7 (some .int) :: ((wsX4_write_r1 ++ (wsX4_write_r2 ++ wsX4_write_r3)) ++ wsX40)
def wsX4_ask_r1 : List Cond := [Cond.fieldLink RX4 16 "DirtyTilesModel" "isIn" "[Z", Cond.fieldLink RX4 47 "DirtyTilesModel" "waiting" "[I", Cond.fieldLink RX4 38 "DirtyTilesModel" "many" "[I", Cond.methodLink RX4 112 yX4_isClient, Cond.static yX4_isClient, Cond.initialized RX4, Cond.code yX4_isClient cX4_isClient 1 (some .boolean), Cond.methodLink RX4 60 yX4_in, Cond.static yX4_in, Cond.code yX4_in cX4_in 3 (some .boolean), Cond.methodLink RX4 80 yX4_goesWell, Cond.instanceMethod yX4_goesWell, Cond.selects RX4 yX4_goesWell yX4_goesWell, Cond.code yX4_goesWell cX4_goesWell 2 (some .boolean), Cond.fieldLink RX4 56 "DirtyTilesModel" "thrown" "I", Cond.methodLink RX4 131 yX4_write, Cond.instanceMethod yX4_write, Cond.selects RX4 yX4_write yX4_write, Cond.code yX4_write cX4_write 7 (some .int), Cond.fieldLink RX4 35 "DirtyTilesModel" "dirty" "[I", Cond.fieldLink RX4 50 "DirtyTilesModel" "written" "[I", Cond.fieldLink RX4 128 "DirtyTilesModel" "units" "I", Cond.fieldLink RX4 41 "DirtyTilesModel" "sent" "[I", Cond.fieldLink RX4 44 "DirtyTilesModel" "cells" "[I"]
def wsX4_ask_r2 : List Cond := [Cond.fieldLink RX4 53 "DirtyTilesModel" "tile" "[I", Cond.methodLink RX4 94 yX4_look, Cond.instanceMethod yX4_look, Cond.selects RX4 yX4_look yX4_look, Cond.code yX4_look cX4_look 3 none, Cond.fieldLink RX4 7 "DirtyTilesModel" "screen" "[I", Cond.methodLink RX4 68 yX4_cellOf, Cond.static yX4_cellOf, Cond.code yX4_cellOf cX4_cellOf 2 (some .int), Cond.methodLink RX4 115 yX4_wayOf, Cond.instanceMethod yX4_wayOf, Cond.selects RX4 yX4_wayOf yX4_wayOf, Cond.code yX4_wayOf cX4_wayOf 4 (some .int), Cond.methodLink RX4 98 yX4_countColours, Cond.instanceMethod yX4_countColours, Cond.selects RX4 yX4_countColours yX4_countColours, Cond.code yX4_countColours cX4_countColours 4 (some .int), Cond.methodLink RX4 104 yX4_find, Cond.instanceMethod yX4_find, Cond.selects RX4 yX4_find yX4_find, Cond.code yX4_find cX4_find 5 (some .int), Cond.fieldLink RX4 26 "DirtyTilesModel" "sizes" "[I", Cond.fieldLink RX4 23 "DirtyTilesModel" "caches" "[I", Cond.methodLink RX4 108 yX4_better]
def wsX4_ask_r3 : List Cond := [Cond.static yX4_better, Cond.code yX4_better cX4_better 3 (some .int), Cond.methodLink RX4 101 yX4_countRuns, Cond.instanceMethod yX4_countRuns, Cond.selects RX4 yX4_countRuns yX4_countRuns, Cond.code yX4_countRuns cX4_countRuns 3 (some .int), Cond.methodLink RX4 125 yX4_cache, Cond.instanceMethod yX4_cache, Cond.selects RX4 yX4_cache yX4_cache, Cond.code yX4_cache cX4_cache 3 none, Cond.methodLink RX4 118 yX4_shift, Cond.instanceMethod yX4_shift, Cond.selects RX4 yX4_shift yX4_shift, Cond.code yX4_shift cX4_shift 5 none]
def wsX4_ask : List Cond := .code yX4_ask cX4_ask 5 (some .int) :: ((wsX4_ask_r1 ++ (wsX4_ask_r2 ++ wsX4_ask_r3)) ++ wsX40)
def wsX4_answer_r1 : List Cond := [Cond.fieldLink RX4 16 "DirtyTilesModel" "isIn" "[Z", Cond.fieldLink RX4 47 "DirtyTilesModel" "waiting" "[I", Cond.fieldLink RX4 53 "DirtyTilesModel" "tile" "[I", Cond.fieldLink RX4 44 "DirtyTilesModel" "cells" "[I", Cond.fieldLink RX4 20 "DirtyTilesModel" "screens" "[I", Cond.fieldLink RX4 41 "DirtyTilesModel" "sent" "[I", Cond.methodLink RX4 112 yX4_isClient, Cond.static yX4_isClient, Cond.initialized RX4, Cond.code yX4_isClient cX4_isClient 1 (some .boolean), Cond.methodLink RX4 60 yX4_in, Cond.static yX4_in, Cond.code yX4_in cX4_in 3 (some .boolean), Cond.methodLink RX4 80 yX4_goesWell, Cond.instanceMethod yX4_goesWell, Cond.selects RX4 yX4_goesWell yX4_goesWell, Cond.code yX4_goesWell cX4_goesWell 2 (some .boolean), Cond.fieldLink RX4 56 "DirtyTilesModel" "thrown" "I", Cond.methodLink RX4 68 yX4_cellOf, Cond.static yX4_cellOf, Cond.code yX4_cellOf cX4_cellOf 2 (some .int), Cond.methodLink RX4 134 yX4_cacheOwn, Cond.instanceMethod yX4_cacheOwn, Cond.selects RX4 yX4_cacheOwn yX4_cacheOwn]
def wsX4_answer_r2 : List Cond := [Cond.code yX4_cacheOwn cX4_cacheOwn 3 none, Cond.fieldLink RX4 29 "DirtyTilesModel" "owns" "[I", Cond.fieldLink RX4 32 "DirtyTilesModel" "ownSizes" "[I", Cond.methodLink RX4 122 yX4_findOwn, Cond.instanceMethod yX4_findOwn, Cond.selects RX4 yX4_findOwn yX4_findOwn, Cond.code yX4_findOwn cX4_findOwn 5 (some .int), Cond.methodLink RX4 118 yX4_shift, Cond.instanceMethod yX4_shift, Cond.selects RX4 yX4_shift yX4_shift, Cond.code yX4_shift cX4_shift 5 none]
def wsX4_answer : List Cond := .code yX4_answer cX4_answer 6 (some .int) :: ((wsX4_answer_r1 ++ wsX4_answer_r2) ++ wsX40)
def wsX4_shown : List Cond := .code yX4_shown cX4_shown 5 (some .int) :: ([.fieldLink RX4 16 "DirtyTilesModel" "isIn" "[Z", .fieldLink RX4 20 "DirtyTilesModel" "screens" "[I", .methodLink RX4 112 yX4_isClient, .static yX4_isClient, .initialized RX4, .code yX4_isClient cX4_isClient 1 (some .boolean), .methodLink RX4 60 yX4_in, .static yX4_in, .code yX4_in cX4_in 3 (some .boolean), .methodLink RX4 64 yX4_isCell, .static yX4_isCell, .code yX4_isCell cX4_isCell 2 (some .boolean), .methodLink RX4 80 yX4_goesWell, .instanceMethod yX4_goesWell, .selects RX4 yX4_goesWell yX4_goesWell, .code yX4_goesWell cX4_goesWell 2 (some .boolean), .fieldLink RX4 56 "DirtyTilesModel" "thrown" "I"] ++ wsX40)
def wsX4_isJoined : List Cond := .code yX4_isJoined cX4_isJoined 2 (some .boolean) :: ([.fieldLink RX4 16 "DirtyTilesModel" "isIn" "[Z", .methodLink RX4 112 yX4_isClient, .static yX4_isClient, .initialized RX4, .code yX4_isClient cX4_isClient 1 (some .boolean), .methodLink RX4 60 yX4_in, .static yX4_in, .code yX4_in cX4_in 3 (some .boolean), .methodLink RX4 80 yX4_goesWell, .instanceMethod yX4_goesWell, .selects RX4 yX4_goesWell yX4_goesWell, .code yX4_goesWell cX4_goesWell 2 (some .boolean), .fieldLink RX4 56 "DirtyTilesModel" "thrown" "I"] ++ wsX40)
def wsX4_unlike : List Cond := .code yX4_unlike cX4_unlike 4 (some .int) :: ([.fieldLink RX4 20 "DirtyTilesModel" "screens" "[I", .fieldLink RX4 7 "DirtyTilesModel" "screen" "[I", .methodLink RX4 137 yX4_isJoined, .instanceMethod yX4_isJoined, .selects RX4 yX4_isJoined yX4_isJoined, .initialized RX4, .code yX4_isJoined cX4_isJoined 2 (some .boolean), .fieldLink RX4 16 "DirtyTilesModel" "isIn" "[Z", .methodLink RX4 112 yX4_isClient, .static yX4_isClient, .code yX4_isClient cX4_isClient 1 (some .boolean), .methodLink RX4 60 yX4_in, .static yX4_in, .code yX4_in cX4_in 3 (some .boolean), .methodLink RX4 80 yX4_goesWell, .instanceMethod yX4_goesWell, .selects RX4 yX4_goesWell yX4_goesWell, .code yX4_goesWell cX4_goesWell 2 (some .boolean), .fieldLink RX4 56 "DirtyTilesModel" "thrown" "I"] ++ wsX40)
def wsX4_dirty : List Cond := .code yX4_dirty cX4_dirty 2 (some .int) :: ([.fieldLink RX4 38 "DirtyTilesModel" "many" "[I", .methodLink RX4 137 yX4_isJoined, .instanceMethod yX4_isJoined, .selects RX4 yX4_isJoined yX4_isJoined, .initialized RX4, .code yX4_isJoined cX4_isJoined 2 (some .boolean), .fieldLink RX4 16 "DirtyTilesModel" "isIn" "[Z", .methodLink RX4 112 yX4_isClient, .static yX4_isClient, .code yX4_isClient cX4_isClient 1 (some .boolean), .methodLink RX4 60 yX4_in, .static yX4_in, .code yX4_in cX4_in 3 (some .boolean), .methodLink RX4 80 yX4_goesWell, .instanceMethod yX4_goesWell, .selects RX4 yX4_goesWell yX4_goesWell, .code yX4_goesWell cX4_goesWell 2 (some .boolean), .fieldLink RX4 56 "DirtyTilesModel" "thrown" "I"] ++ wsX40)
def wsX4_dirtyAt : List Cond := .code yX4_dirtyAt cX4_dirtyAt 4 (some .int) :: ([.fieldLink RX4 38 "DirtyTilesModel" "many" "[I", .fieldLink RX4 16 "DirtyTilesModel" "isIn" "[Z", .fieldLink RX4 35 "DirtyTilesModel" "dirty" "[I", .methodLink RX4 112 yX4_isClient, .static yX4_isClient, .initialized RX4, .code yX4_isClient cX4_isClient 1 (some .boolean), .methodLink RX4 60 yX4_in, .static yX4_in, .code yX4_in cX4_in 3 (some .boolean), .methodLink RX4 80 yX4_goesWell, .instanceMethod yX4_goesWell, .selects RX4 yX4_goesWell yX4_goesWell, .code yX4_goesWell cX4_goesWell 2 (some .boolean), .fieldLink RX4 56 "DirtyTilesModel" "thrown" "I"] ++ wsX40)
def wsX4_cached : List Cond := .code yX4_cached cX4_cached 2 (some .int) :: ([.fieldLink RX4 32 "DirtyTilesModel" "ownSizes" "[I", .methodLink RX4 137 yX4_isJoined, .instanceMethod yX4_isJoined, .selects RX4 yX4_isJoined yX4_isJoined, .initialized RX4, .code yX4_isJoined cX4_isJoined 2 (some .boolean), .fieldLink RX4 16 "DirtyTilesModel" "isIn" "[Z", .methodLink RX4 112 yX4_isClient, .static yX4_isClient, .code yX4_isClient cX4_isClient 1 (some .boolean), .methodLink RX4 60 yX4_in, .static yX4_in, .code yX4_in cX4_in 3 (some .boolean), .methodLink RX4 80 yX4_goesWell, .instanceMethod yX4_goesWell, .selects RX4 yX4_goesWell yX4_goesWell, .code yX4_goesWell cX4_goesWell 2 (some .boolean), .fieldLink RX4 56 "DirtyTilesModel" "thrown" "I"] ++ wsX40)
def wsX4_isAlike : List Cond := .code yX4_isAlike cX4_isAlike 4 (some .boolean) :: ([.fieldLink RX4 26 "DirtyTilesModel" "sizes" "[I", .fieldLink RX4 32 "DirtyTilesModel" "ownSizes" "[I", .fieldLink RX4 23 "DirtyTilesModel" "caches" "[I", .fieldLink RX4 29 "DirtyTilesModel" "owns" "[I", .methodLink RX4 137 yX4_isJoined, .instanceMethod yX4_isJoined, .selects RX4 yX4_isJoined yX4_isJoined, .initialized RX4, .code yX4_isJoined cX4_isJoined 2 (some .boolean), .fieldLink RX4 16 "DirtyTilesModel" "isIn" "[Z", .methodLink RX4 112 yX4_isClient, .static yX4_isClient, .code yX4_isClient cX4_isClient 1 (some .boolean), .methodLink RX4 60 yX4_in, .static yX4_in, .code yX4_in cX4_in 3 (some .boolean), .methodLink RX4 80 yX4_goesWell, .instanceMethod yX4_goesWell, .selects RX4 yX4_goesWell yX4_goesWell, .code yX4_goesWell cX4_goesWell 2 (some .boolean), .fieldLink RX4 56 "DirtyTilesModel" "thrown" "I"] ++ wsX40)
def wsX4_written : List Cond := .code yX4_written cX4_written 2 (some .int) :: ([.fieldLink RX4 50 "DirtyTilesModel" "written" "[I", .methodLink RX4 60 yX4_in, .static yX4_in, .initialized RX4, .code yX4_in cX4_in 3 (some .boolean), .methodLink RX4 80 yX4_goesWell, .instanceMethod yX4_goesWell, .selects RX4 yX4_goesWell yX4_goesWell, .code yX4_goesWell cX4_goesWell 2 (some .boolean), .fieldLink RX4 56 "DirtyTilesModel" "thrown" "I"] ++ wsX40)
def wsX4_units : List Cond := .code yX4_units cX4_units 1 (some .int) :: ([.fieldLink RX4 56 "DirtyTilesModel" "thrown" "I", .fieldLink RX4 128 "DirtyTilesModel" "units" "I"] ++ wsX40)
def wsJ9_min_7cf53 : List Cond := .code yJ9_min_7cf53 cJ9_min_7cf53 2 (some .int) :: ([])
def wsL_fill_r1 : List Cond := [Cond.classLink RL 13 "java/lang/IllegalArgumentException", Cond.methodLink RL 7 yX3_fill, Cond.instanceMethod yX3_fill, Cond.selects RX3 yX3_fill yX3_fill, Cond.initialized RX3, Cond.code yX3_fill cX3_fill 8 (some .int), Cond.fieldLink RX3 16 "DirtyTiles" "screenBefore" "LDirtyTiles$Screen;", Cond.fieldLink RX3 10 "DirtyTiles" "screen" "LDirtyTiles$Screen;", Cond.methodLink RX3 34 yX3_isBox, Cond.static yX3_isBox, Cond.code yX3_isBox cX3_isBox 4 (some .boolean), Cond.methodLink RX3 62 yX3_isCell, Cond.static yX3_isCell, Cond.code yX3_isCell cX3_isCell 2 (some .boolean), Cond.methodLink RX3 42 yX3_isIndex, Cond.static yX3_isIndex, Cond.code yX3_isIndex cX3_isIndex 2 (some .boolean), Cond.methodLink RX3 58 yX3_isBetween, Cond.static yX3_isBetween, Cond.code yX3_isBetween cX3_isBetween 3 (some .boolean), Cond.methodLink RX3 38 yX3_requireArgument, Cond.static yX3_requireArgument, Cond.code yX3_requireArgument cX3_requireArgument 1 none, Cond.classLink RX3 145 "java/lang/IllegalArgumentException"]
def wsL_fill_r2 : List Cond := [Cond.initialized "java/lang/IllegalArgumentException", Cond.methodLink RX3 46 yX2_become, Cond.instanceMethod yX2_become, Cond.selects RX2 yX2_become yX2_become, Cond.initialized RX2, Cond.code yX2_become cX2_become 3 none, Cond.fieldLink RX2 9 "DirtyTiles$Screen" "tiles" "[J", Cond.methodLink RX3 50 yX2_paint, Cond.instanceMethod yX2_paint, Cond.selects RX2 yX2_paint yX2_paint, Cond.code yX2_paint cX2_paint 6 none, Cond.constantLong RX2 26 (15), Cond.constantLong RX2 28 (-1), Cond.methodLink RX2 15 yX2_tileOf, Cond.static yX2_tileOf, Cond.code yX2_tileOf cX2_tileOf 2 (some .int), Cond.methodLink RX2 19 yX2_placeInTile, Cond.static yX2_placeInTile, Cond.code yX2_placeInTile cX2_placeInTile 2 (some .int), Cond.methodLink RX3 54 yX3_noteChanges, Cond.instanceMethod yX3_noteChanges, Cond.selects RX3 yX3_noteChanges yX3_noteChanges, Cond.code yX3_noteChanges cX3_noteChanges 4 (some .int), Cond.methodLink RX3 69 yX2_cellsOf]
def wsL_fill_r3 : List Cond := [Cond.instanceMethod yX2_cellsOf, Cond.selects RX2 yX2_cellsOf yX2_cellsOf, Cond.code yX2_cellsOf cX2_cellsOf 2 (some .long), Cond.methodLink RX3 118 yX3_countDifferent, Cond.static yX3_countDifferent, Cond.code yX3_countDifferent cX3_countDifferent 6 (some .int), Cond.methodLink RX3 182 yX3_cellAt, Cond.static yX3_cellAt, Cond.code yX3_cellAt cX3_cellAt 3 (some .int), Cond.constantLong RX3 180 (15), Cond.methodLink RX3 155 yX3_makeDirtyForAll, Cond.instanceMethod yX3_makeDirtyForAll, Cond.selects RX3 yX3_makeDirtyForAll yX3_makeDirtyForAll, Cond.code yX3_makeDirtyForAll cX3_makeDirtyForAll 3 none, Cond.fieldLink RX3 21 "DirtyTiles" "clients" "[LDirtyTiles$Client;", Cond.methodLink RX3 80 yX1_hasJoined, Cond.instanceMethod yX1_hasJoined, Cond.selects RX1 yX1_hasJoined yX1_hasJoined, Cond.initialized RX1, Cond.code yX1_hasJoined cX1_hasJoined 1 (some .boolean), Cond.fieldLink RX1 9 "DirtyTiles$Client" "joined" "Z", Cond.methodLink RX3 159 yX1_makeDirty, Cond.instanceMethod yX1_makeDirty, Cond.selects RX1 yX1_makeDirty yX1_makeDirty]
def wsL_fill_r4 : List Cond := [Cond.code yX1_makeDirty cX1_makeDirty 3 none, Cond.fieldLink RX1 36 "DirtyTiles$Client" "dirtyCount" "I", Cond.fieldLink RX1 32 "DirtyTiles$Client" "dirtyTiles" "[I"]
def wsL_fill : List Cond := .codeWith yL_fill cL_fill 8 (some .int) [(0, 16, 19, 13)] :: ((wsL_fill_r1 ++ (wsL_fill_r2 ++ (wsL_fill_r3 ++ wsL_fill_r4))) ++ wsX30 ++ wsX20 ++ wsX10 ++ (vx_atS RX3 149 "java/lang/IllegalArgumentException" ["java/lang/RuntimeException", "java/lang/Exception"]).filter goodWord)
def wsL_copy_r1 : List Cond := [Cond.classLink RL 13 "java/lang/IllegalArgumentException", Cond.methodLink RL 15 yX3_copy, Cond.instanceMethod yX3_copy, Cond.selects RX3 yX3_copy yX3_copy, Cond.initialized RX3, Cond.code yX3_copy cX3_copy 9 (some .int), Cond.fieldLink RX3 16 "DirtyTiles" "screenBefore" "LDirtyTiles$Screen;", Cond.fieldLink RX3 10 "DirtyTiles" "screen" "LDirtyTiles$Screen;", Cond.methodLink RX3 34 yX3_isBox, Cond.static yX3_isBox, Cond.code yX3_isBox cX3_isBox 4 (some .boolean), Cond.methodLink RX3 62 yX3_isCell, Cond.static yX3_isCell, Cond.code yX3_isCell cX3_isCell 2 (some .boolean), Cond.methodLink RX3 42 yX3_isIndex, Cond.static yX3_isIndex, Cond.code yX3_isIndex cX3_isIndex 2 (some .boolean), Cond.methodLink RX3 58 yX3_isBetween, Cond.static yX3_isBetween, Cond.code yX3_isBetween cX3_isBetween 3 (some .boolean), Cond.methodLink RX3 38 yX3_requireArgument, Cond.static yX3_requireArgument, Cond.code yX3_requireArgument cX3_requireArgument 1 none, Cond.classLink RX3 145 "java/lang/IllegalArgumentException"]
def wsL_copy_r2 : List Cond := [Cond.initialized "java/lang/IllegalArgumentException", Cond.methodLink RX3 46 yX2_become, Cond.instanceMethod yX2_become, Cond.selects RX2 yX2_become yX2_become, Cond.initialized RX2, Cond.code yX2_become cX2_become 3 none, Cond.fieldLink RX2 9 "DirtyTiles$Screen" "tiles" "[J", Cond.methodLink RX3 65 yX2_colourAt, Cond.instanceMethod yX2_colourAt, Cond.selects RX2 yX2_colourAt yX2_colourAt, Cond.code yX2_colourAt cX2_colourAt 3 (some .int), Cond.methodLink RX2 15 yX2_tileOf, Cond.static yX2_tileOf, Cond.code yX2_tileOf cX2_tileOf 2 (some .int), Cond.methodLink RX2 19 yX2_placeInTile, Cond.static yX2_placeInTile, Cond.code yX2_placeInTile cX2_placeInTile 2 (some .int), Cond.static yX3_cellAt, Cond.code yX3_cellAt cX3_cellAt 3 (some .int), Cond.constantLong RX3 180 (15), Cond.methodLink RX3 50 yX2_paint, Cond.instanceMethod yX2_paint, Cond.selects RX2 yX2_paint yX2_paint, Cond.code yX2_paint cX2_paint 6 none]
def wsL_copy_r3 : List Cond := [Cond.constantLong RX2 26 (15), Cond.constantLong RX2 28 (-1), Cond.methodLink RX3 54 yX3_noteChanges, Cond.instanceMethod yX3_noteChanges, Cond.selects RX3 yX3_noteChanges yX3_noteChanges, Cond.code yX3_noteChanges cX3_noteChanges 4 (some .int), Cond.methodLink RX3 69 yX2_cellsOf, Cond.instanceMethod yX2_cellsOf, Cond.selects RX2 yX2_cellsOf yX2_cellsOf, Cond.code yX2_cellsOf cX2_cellsOf 2 (some .long), Cond.methodLink RX3 118 yX3_countDifferent, Cond.static yX3_countDifferent, Cond.code yX3_countDifferent cX3_countDifferent 6 (some .int), Cond.methodLink RX3 182 yX3_cellAt, Cond.methodLink RX3 155 yX3_makeDirtyForAll, Cond.instanceMethod yX3_makeDirtyForAll, Cond.selects RX3 yX3_makeDirtyForAll yX3_makeDirtyForAll, Cond.code yX3_makeDirtyForAll cX3_makeDirtyForAll 3 none, Cond.fieldLink RX3 21 "DirtyTiles" "clients" "[LDirtyTiles$Client;", Cond.methodLink RX3 80 yX1_hasJoined, Cond.instanceMethod yX1_hasJoined, Cond.selects RX1 yX1_hasJoined yX1_hasJoined, Cond.initialized RX1, Cond.code yX1_hasJoined cX1_hasJoined 1 (some .boolean)]
def wsL_copy_r4 : List Cond := [Cond.fieldLink RX1 9 "DirtyTiles$Client" "joined" "Z", Cond.methodLink RX3 159 yX1_makeDirty, Cond.instanceMethod yX1_makeDirty, Cond.selects RX1 yX1_makeDirty yX1_makeDirty, Cond.code yX1_makeDirty cX1_makeDirty 3 none, Cond.fieldLink RX1 36 "DirtyTiles$Client" "dirtyCount" "I", Cond.fieldLink RX1 32 "DirtyTiles$Client" "dirtyTiles" "[I"]
def wsL_copy : List Cond := .codeWith yL_copy cL_copy 9 (some .int) [(0, 18, 21, 13)] :: ((wsL_copy_r1 ++ (wsL_copy_r2 ++ (wsL_copy_r3 ++ wsL_copy_r4))) ++ wsX30 ++ wsX20 ++ wsX10 ++ (vx_atS RX3 149 "java/lang/IllegalArgumentException" ["java/lang/RuntimeException", "java/lang/Exception"]).filter goodWord)
def wsL_colour_r1 : List Cond := [Cond.classLink RL 13 "java/lang/IllegalArgumentException", Cond.methodLink RL 19 yX3_colour, Cond.instanceMethod yX3_colour, Cond.selects RX3 yX3_colour yX3_colour, Cond.initialized RX3, Cond.code yX3_colour cX3_colour 3 (some .int), Cond.fieldLink RX3 10 "DirtyTiles" "screen" "LDirtyTiles$Screen;", Cond.methodLink RX3 62 yX3_isCell, Cond.static yX3_isCell, Cond.code yX3_isCell cX3_isCell 2 (some .boolean), Cond.methodLink RX3 42 yX3_isIndex, Cond.static yX3_isIndex, Cond.code yX3_isIndex cX3_isIndex 2 (some .boolean), Cond.methodLink RX3 38 yX3_requireArgument, Cond.static yX3_requireArgument, Cond.code yX3_requireArgument cX3_requireArgument 1 none, Cond.classLink RX3 145 "java/lang/IllegalArgumentException", Cond.initialized "java/lang/IllegalArgumentException", Cond.methodLink RX3 65 yX2_colourAt, Cond.instanceMethod yX2_colourAt, Cond.selects RX2 yX2_colourAt yX2_colourAt, Cond.initialized RX2, Cond.code yX2_colourAt cX2_colourAt 3 (some .int), Cond.fieldLink RX2 9 "DirtyTiles$Screen" "tiles" "[J"]
def wsL_colour_r2 : List Cond := [Cond.methodLink RX2 15 yX2_tileOf, Cond.static yX2_tileOf, Cond.code yX2_tileOf cX2_tileOf 2 (some .int), Cond.methodLink RX2 19 yX2_placeInTile, Cond.static yX2_placeInTile, Cond.code yX2_placeInTile cX2_placeInTile 2 (some .int), Cond.static yX3_cellAt, Cond.code yX3_cellAt cX3_cellAt 3 (some .int), Cond.constantLong RX3 180 (15)]
def wsL_colour : List Cond := .codeWith yL_colour cL_colour 5 (some .int) [(0, 10, 13, 13)] :: ((wsL_colour_r1 ++ wsL_colour_r2) ++ wsX30 ++ wsX20 ++ (vx_atS RX3 149 "java/lang/IllegalArgumentException" ["java/lang/RuntimeException", "java/lang/Exception"]).filter goodWord)
def wsL_colours_r1 : List Cond := [Cond.classLink RL 13 "java/lang/IllegalArgumentException", Cond.methodLink RL 23 yX3_colours, Cond.instanceMethod yX3_colours, Cond.selects RX3 yX3_colours yX3_colours, Cond.initialized RX3, Cond.code yX3_colours cX3_colours 2 (some .int), Cond.fieldLink RX3 10 "DirtyTiles" "screen" "LDirtyTiles$Screen;", Cond.methodLink RX3 42 yX3_isIndex, Cond.static yX3_isIndex, Cond.code yX3_isIndex cX3_isIndex 2 (some .boolean), Cond.methodLink RX3 38 yX3_requireArgument, Cond.static yX3_requireArgument, Cond.code yX3_requireArgument cX3_requireArgument 1 none, Cond.classLink RX3 145 "java/lang/IllegalArgumentException", Cond.initialized "java/lang/IllegalArgumentException", Cond.methodLink RX3 69 yX2_cellsOf, Cond.instanceMethod yX2_cellsOf, Cond.selects RX2 yX2_cellsOf yX2_cellsOf, Cond.initialized RX2, Cond.code yX2_cellsOf cX2_cellsOf 2 (some .long), Cond.fieldLink RX2 9 "DirtyTiles$Screen" "tiles" "[J", Cond.methodLink RX3 73 yX3_countColours, Cond.static yX3_countColours, Cond.code yX3_countColours cX3_countColours 4 (some .int)]
def wsL_colours_r2 : List Cond := [Cond.methodLink RX3 182 yX3_cellAt, Cond.static yX3_cellAt, Cond.code yX3_cellAt cX3_cellAt 3 (some .int), Cond.constantLong RX3 180 (15), Cond.methodLink RX3 186 yJ6_bitCount_0f7a4, Cond.static yJ6_bitCount_0f7a4, Cond.initialized RJ6, Cond.code yJ6_bitCount_0f7a4 cJ6_bitCount_0f7a4 1 (some .int), Cond.constant RJ6 265 (1431655765), Cond.constant RJ6 266 (858993459), Cond.constant RJ6 267 (252645135)]
def wsL_colours : List Cond := .codeWith yL_colours cL_colours 4 (some .int) [(0, 9, 12, 13)] :: ((wsL_colours_r1 ++ wsL_colours_r2) ++ wsX30 ++ wsX20 ++ (vx_atS RX3 149 "java/lang/IllegalArgumentException" ["java/lang/RuntimeException", "java/lang/Exception"]).filter goodWord)
def wsL_runs_r1 : List Cond := [Cond.classLink RL 13 "java/lang/IllegalArgumentException", Cond.methodLink RL 27 yX3_runs, Cond.instanceMethod yX3_runs, Cond.selects RX3 yX3_runs yX3_runs, Cond.initialized RX3, Cond.code yX3_runs cX3_runs 2 (some .int), Cond.fieldLink RX3 10 "DirtyTiles" "screen" "LDirtyTiles$Screen;", Cond.methodLink RX3 42 yX3_isIndex, Cond.static yX3_isIndex, Cond.code yX3_isIndex cX3_isIndex 2 (some .boolean), Cond.methodLink RX3 38 yX3_requireArgument, Cond.static yX3_requireArgument, Cond.code yX3_requireArgument cX3_requireArgument 1 none, Cond.classLink RX3 145 "java/lang/IllegalArgumentException", Cond.initialized "java/lang/IllegalArgumentException", Cond.methodLink RX3 69 yX2_cellsOf, Cond.instanceMethod yX2_cellsOf, Cond.selects RX2 yX2_cellsOf yX2_cellsOf, Cond.initialized RX2, Cond.code yX2_cellsOf cX2_cellsOf 2 (some .long), Cond.fieldLink RX2 9 "DirtyTiles$Screen" "tiles" "[J", Cond.methodLink RX3 77 yX3_countRuns, Cond.static yX3_countRuns, Cond.code yX3_countRuns cX3_countRuns 4 (some .int)]
def wsL_runs_r2 : List Cond := [Cond.methodLink RX3 182 yX3_cellAt, Cond.static yX3_cellAt, Cond.code yX3_cellAt cX3_cellAt 3 (some .int), Cond.constantLong RX3 180 (15)]
def wsL_runs : List Cond := .codeWith yL_runs cL_runs 4 (some .int) [(0, 9, 12, 13)] :: ((wsL_runs_r1 ++ wsL_runs_r2) ++ wsX30 ++ wsX20 ++ (vx_atS RX3 149 "java/lang/IllegalArgumentException" ["java/lang/RuntimeException", "java/lang/Exception"]).filter goodWord)
def wsL_way_r1 : List Cond := [Cond.classLink RL 13 "java/lang/IllegalArgumentException", Cond.classLink RL 33 "java/lang/IllegalStateException", Cond.methodLink RL 30 yX3_way, Cond.instanceMethod yX3_way, Cond.selects RX3 yX3_way yX3_way, Cond.initialized RX3, Cond.code yX3_way cX3_way 3 (some .int), Cond.fieldLink RX3 21 "DirtyTiles" "clients" "[LDirtyTiles$Client;", Cond.fieldLink RX3 10 "DirtyTiles" "screen" "LDirtyTiles$Screen;", Cond.methodLink RX3 42 yX3_isIndex, Cond.static yX3_isIndex, Cond.code yX3_isIndex cX3_isIndex 2 (some .boolean), Cond.methodLink RX3 38 yX3_requireArgument, Cond.static yX3_requireArgument, Cond.code yX3_requireArgument cX3_requireArgument 1 none, Cond.classLink RX3 145 "java/lang/IllegalArgumentException", Cond.initialized "java/lang/IllegalArgumentException", Cond.methodLink RX3 80 yX1_hasJoined, Cond.instanceMethod yX1_hasJoined, Cond.selects RX1 yX1_hasJoined yX1_hasJoined, Cond.initialized RX1, Cond.code yX1_hasJoined cX1_hasJoined 1 (some .boolean), Cond.fieldLink RX1 9 "DirtyTiles$Client" "joined" "Z", Cond.methodLink RX3 84 yX3_requireState]
def wsL_way_r2 : List Cond := [Cond.static yX3_requireState, Cond.code yX3_requireState cX3_requireState 1 none, Cond.classLink RX3 150 "java/lang/IllegalStateException", Cond.initialized "java/lang/IllegalStateException", Cond.methodLink RX3 69 yX2_cellsOf, Cond.instanceMethod yX2_cellsOf, Cond.selects RX2 yX2_cellsOf yX2_cellsOf, Cond.initialized RX2, Cond.code yX2_cellsOf cX2_cellsOf 2 (some .long), Cond.fieldLink RX2 9 "DirtyTiles$Screen" "tiles" "[J", Cond.methodLink RX3 87 yX1_serverCache, Cond.instanceMethod yX1_serverCache, Cond.selects RX1 yX1_serverCache yX1_serverCache, Cond.code yX1_serverCache cX1_serverCache 1 (some (.object "DirtyTiles$Cache")), Cond.fieldLink RX1 29 "DirtyTiles$Client" "serverCache" "LDirtyTiles$Cache;", Cond.methodLink RX3 91 yX3_cheapestWriting, Cond.static yX3_cheapestWriting, Cond.code yX3_cheapestWriting cX3_cheapestWriting 7 (some .int), Cond.methodLink RX3 169 yX3_unitsIn, Cond.static yX3_unitsIn, Cond.code yX3_unitsIn cX3_unitsIn 4 (some .int), Cond.methodLink RX3 173 yX0_holds, Cond.instanceMethod yX0_holds, Cond.selects RX0 yX0_holds yX0_holds]
def wsL_way_r3 : List Cond := [Cond.initialized RX0, Cond.code yX0_holds cX0_holds 3 (some .boolean), Cond.fieldLink RX0 15 "DirtyTiles$Cache" "count" "I", Cond.methodLink RX0 19 yX0_placeOf, Cond.instanceMethod yX0_placeOf, Cond.selects RX0 yX0_placeOf yX0_placeOf, Cond.code yX0_placeOf cX0_placeOf 4 (some .int), Cond.fieldLink RX0 9 "DirtyTiles$Cache" "tiles" "[J", Cond.methodLink RX3 73 yX3_countColours, Cond.static yX3_countColours, Cond.code yX3_countColours cX3_countColours 4 (some .int), Cond.methodLink RX3 182 yX3_cellAt, Cond.static yX3_cellAt, Cond.code yX3_cellAt cX3_cellAt 3 (some .int), Cond.constantLong RX3 180 (15), Cond.methodLink RX3 186 yJ6_bitCount_0f7a4, Cond.static yJ6_bitCount_0f7a4, Cond.initialized RJ6, Cond.code yJ6_bitCount_0f7a4 cJ6_bitCount_0f7a4 1 (some .int), Cond.constant RJ6 265 (1431655765), Cond.constant RJ6 266 (858993459), Cond.constant RJ6 267 (252645135), Cond.methodLink RX3 177 yX3_unitsByColours, Cond.static yX3_unitsByColours]
def wsL_way_r4 : List Cond := [Cond.code yX3_unitsByColours cX3_unitsByColours 1 (some .int), Cond.methodLink RX3 77 yX3_countRuns, Cond.static yX3_countRuns, Cond.code yX3_countRuns cX3_countRuns 4 (some .int)]
def wsL_way : List Cond := .codeWith yL_way cL_way 5 (some .int) [(0, 10, 13, 13), (0, 10, 17, 33)] :: ((wsL_way_r1 ++ (wsL_way_r2 ++ (wsL_way_r3 ++ wsL_way_r4))) ++ wsX30 ++ wsX10 ++ wsX20 ++ wsX00 ++ (vx_atS RX3 149 "java/lang/IllegalArgumentException" ["java/lang/RuntimeException", "java/lang/Exception"]).filter goodWord ++ (vx_atS RX3 154 "java/lang/IllegalStateException" ["java/lang/RuntimeException", "java/lang/Exception"]).filter goodWord)
def wsL_join_r1 : List Cond := [Cond.classLink RL 13 "java/lang/IllegalArgumentException", Cond.methodLink RL 35 yX3_join, Cond.instanceMethod yX3_join, Cond.selects RX3 yX3_join yX3_join, Cond.initialized RX3, Cond.code yX3_join cX3_join 2 (some .int), Cond.fieldLink RX3 21 "DirtyTiles" "clients" "[LDirtyTiles$Client;", Cond.methodLink RX3 42 yX3_isIndex, Cond.static yX3_isIndex, Cond.code yX3_isIndex cX3_isIndex 2 (some .boolean), Cond.methodLink RX3 38 yX3_requireArgument, Cond.static yX3_requireArgument, Cond.code yX3_requireArgument cX3_requireArgument 1 none, Cond.classLink RX3 145 "java/lang/IllegalArgumentException", Cond.initialized "java/lang/IllegalArgumentException", Cond.methodLink RX3 95 yX1_beginAnew, Cond.instanceMethod yX1_beginAnew, Cond.selects RX1 yX1_beginAnew yX1_beginAnew, Cond.initialized RX1, Cond.code yX1_beginAnew cX1_beginAnew 2 none, Cond.fieldLink RX1 9 "DirtyTiles$Client" "joined" "Z", Cond.fieldLink RX1 18 "DirtyTiles$Client" "ownScreen" "LDirtyTiles$Screen;", Cond.fieldLink RX1 25 "DirtyTiles$Client" "ownCache" "LDirtyTiles$Cache;", Cond.fieldLink RX1 29 "DirtyTiles$Client" "serverCache" "LDirtyTiles$Cache;"]
def wsL_join_r2 : List Cond := [Cond.fieldLink RX1 47 "DirtyTiles$Client" "messageCount" "I", Cond.fieldLink RX1 32 "DirtyTiles$Client" "dirtyTiles" "[I", Cond.fieldLink RX1 36 "DirtyTiles$Client" "dirtyCount" "I", Cond.methodLink RX1 50 yX2_clear, Cond.instanceMethod yX2_clear, Cond.selects RX2 yX2_clear yX2_clear, Cond.initialized RX2, Cond.code yX2_clear cX2_clear 2 none, Cond.fieldLink RX2 9 "DirtyTiles$Screen" "tiles" "[J", Cond.methodLink RX1 53 yX0_clear, Cond.instanceMethod yX0_clear, Cond.selects RX0 yX0_clear yX0_clear, Cond.initialized RX0, Cond.code yX0_clear cX0_clear 1 none, Cond.fieldLink RX0 15 "DirtyTiles$Cache" "count" "I", Cond.methodLink RX3 98 yX1_dirtyCount, Cond.instanceMethod yX1_dirtyCount, Cond.selects RX1 yX1_dirtyCount yX1_dirtyCount, Cond.code yX1_dirtyCount cX1_dirtyCount 1 (some .int)]
def wsL_join : List Cond := .codeWith yL_join cL_join 4 (some .int) [(0, 9, 12, 13)] :: ((wsL_join_r1 ++ wsL_join_r2) ++ wsX30 ++ wsX10 ++ wsX20 ++ wsX00 ++ (vx_atS RX3 149 "java/lang/IllegalArgumentException" ["java/lang/RuntimeException", "java/lang/Exception"]).filter goodWord)
def wsL_ask_r1 : List Cond := [Cond.classLink RL 13 "java/lang/IllegalArgumentException", Cond.classLink RL 33 "java/lang/IllegalStateException", Cond.methodLink RL 38 yX3_ask, Cond.instanceMethod yX3_ask, Cond.selects RX3 yX3_ask yX3_ask, Cond.initialized RX3, Cond.code yX3_ask cX3_ask 3 (some .int), Cond.fieldLink RX3 21 "DirtyTiles" "clients" "[LDirtyTiles$Client;", Cond.methodLink RX3 42 yX3_isIndex, Cond.static yX3_isIndex, Cond.code yX3_isIndex cX3_isIndex 2 (some .boolean), Cond.methodLink RX3 38 yX3_requireArgument, Cond.static yX3_requireArgument, Cond.code yX3_requireArgument cX3_requireArgument 1 none, Cond.classLink RX3 145 "java/lang/IllegalArgumentException", Cond.initialized "java/lang/IllegalArgumentException", Cond.methodLink RX3 58 yX3_isBetween, Cond.static yX3_isBetween, Cond.code yX3_isBetween cX3_isBetween 3 (some .boolean), Cond.methodLink RX3 80 yX1_hasJoined, Cond.instanceMethod yX1_hasJoined, Cond.selects RX1 yX1_hasJoined yX1_hasJoined, Cond.initialized RX1, Cond.code yX1_hasJoined cX1_hasJoined 1 (some .boolean)]
def wsL_ask_r2 : List Cond := [Cond.fieldLink RX1 9 "DirtyTiles$Client" "joined" "Z", Cond.methodLink RX3 84 yX3_requireState, Cond.static yX3_requireState, Cond.code yX3_requireState cX3_requireState 1 none, Cond.classLink RX3 150 "java/lang/IllegalStateException", Cond.initialized "java/lang/IllegalStateException", Cond.methodLink RX3 101 yX1_hasMessage, Cond.instanceMethod yX1_hasMessage, Cond.selects RX1 yX1_hasMessage yX1_hasMessage, Cond.code yX1_hasMessage cX1_hasMessage 1 (some .boolean), Cond.fieldLink RX1 47 "DirtyTiles$Client" "messageCount" "I", Cond.methodLink RX3 104 yX3_writeMessage, Cond.instanceMethod yX3_writeMessage, Cond.selects RX3 yX3_writeMessage yX3_writeMessage, Cond.code yX3_writeMessage cX3_writeMessage 11 none, Cond.fieldLink RX3 10 "DirtyTiles" "screen" "LDirtyTiles$Screen;", Cond.fieldLink RX3 25 "DirtyTiles" "tilesWritten" "[I", Cond.fieldLink RX3 29 "DirtyTiles" "unitsWritten" "I", Cond.methodLink RX3 98 yX1_dirtyCount, Cond.instanceMethod yX1_dirtyCount, Cond.selects RX1 yX1_dirtyCount yX1_dirtyCount, Cond.code yX1_dirtyCount cX1_dirtyCount 1 (some .int), Cond.fieldLink RX1 36 "DirtyTiles$Client" "dirtyCount" "I", Cond.methodLink RX3 129 yX1_dirtyTileAt]
def wsL_ask_r3 : List Cond := [Cond.instanceMethod yX1_dirtyTileAt, Cond.selects RX1 yX1_dirtyTileAt yX1_dirtyTileAt, Cond.code yX1_dirtyTileAt cX1_dirtyTileAt 2 (some .int), Cond.fieldLink RX1 32 "DirtyTiles$Client" "dirtyTiles" "[I", Cond.methodLink RX3 69 yX2_cellsOf, Cond.instanceMethod yX2_cellsOf, Cond.selects RX2 yX2_cellsOf yX2_cellsOf, Cond.initialized RX2, Cond.code yX2_cellsOf cX2_cellsOf 2 (some .long), Cond.fieldLink RX2 9 "DirtyTiles$Screen" "tiles" "[J", Cond.methodLink RX3 87 yX1_serverCache, Cond.instanceMethod yX1_serverCache, Cond.selects RX1 yX1_serverCache yX1_serverCache, Cond.code yX1_serverCache cX1_serverCache 1 (some (.object "DirtyTiles$Cache")), Cond.fieldLink RX1 29 "DirtyTiles$Client" "serverCache" "LDirtyTiles$Cache;", Cond.methodLink RX3 91 yX3_cheapestWriting, Cond.static yX3_cheapestWriting, Cond.code yX3_cheapestWriting cX3_cheapestWriting 7 (some .int), Cond.methodLink RX3 169 yX3_unitsIn, Cond.static yX3_unitsIn, Cond.code yX3_unitsIn cX3_unitsIn 4 (some .int), Cond.methodLink RX3 173 yX0_holds, Cond.instanceMethod yX0_holds, Cond.selects RX0 yX0_holds yX0_holds]
def wsL_ask_r4 : List Cond := [Cond.initialized RX0, Cond.code yX0_holds cX0_holds 3 (some .boolean), Cond.fieldLink RX0 15 "DirtyTiles$Cache" "count" "I", Cond.methodLink RX0 19 yX0_placeOf, Cond.instanceMethod yX0_placeOf, Cond.selects RX0 yX0_placeOf yX0_placeOf, Cond.code yX0_placeOf cX0_placeOf 4 (some .int), Cond.fieldLink RX0 9 "DirtyTiles$Cache" "tiles" "[J", Cond.methodLink RX3 73 yX3_countColours, Cond.static yX3_countColours, Cond.code yX3_countColours cX3_countColours 4 (some .int), Cond.methodLink RX3 182 yX3_cellAt, Cond.static yX3_cellAt, Cond.code yX3_cellAt cX3_cellAt 3 (some .int), Cond.constantLong RX3 180 (15), Cond.methodLink RX3 186 yJ6_bitCount_0f7a4, Cond.static yJ6_bitCount_0f7a4, Cond.initialized RJ6, Cond.code yJ6_bitCount_0f7a4 cJ6_bitCount_0f7a4 1 (some .int), Cond.constant RJ6 265 (1431655765), Cond.constant RJ6 266 (858993459), Cond.constant RJ6 267 (252645135), Cond.methodLink RX3 177 yX3_unitsByColours, Cond.static yX3_unitsByColours]
def wsL_ask_r5 : List Cond := [Cond.code yX3_unitsByColours cX3_unitsByColours 1 (some .int), Cond.methodLink RX3 77 yX3_countRuns, Cond.static yX3_countRuns, Cond.code yX3_countRuns cX3_countRuns 4 (some .int), Cond.methodLink RX3 162 yX1_addToMessage, Cond.instanceMethod yX1_addToMessage, Cond.selects RX1 yX1_addToMessage yX1_addToMessage, Cond.code yX1_addToMessage cX1_addToMessage 4 none, Cond.fieldLink RX1 40 "DirtyTiles$Client" "messageTiles" "[I", Cond.fieldLink RX1 43 "DirtyTiles$Client" "messageCells" "[J", Cond.methodLink RX1 54 yX0_bringToFront, Cond.instanceMethod yX0_bringToFront, Cond.selects RX0 yX0_bringToFront yX0_bringToFront, Cond.code yX0_bringToFront cX0_bringToFront 5 none, Cond.methodLink RX0 23 Lib.Math.min.name, Cond.static Lib.Math.min.name, Cond.initialized "java/lang/Math", Cond.code Lib.Math.min.name Lib.Math.min.code 2 (some .int), Cond.methodLink RX3 166 yX1_cleanTilesOfMessage, Cond.instanceMethod yX1_cleanTilesOfMessage, Cond.selects RX1 yX1_cleanTilesOfMessage yX1_cleanTilesOfMessage, Cond.code yX1_cleanTilesOfMessage cX1_cleanTilesOfMessage 2 none, Cond.methodLink RX3 108 yX1_messageCount, Cond.instanceMethod yX1_messageCount]
def wsL_ask_r6 : List Cond := [Cond.selects RX1 yX1_messageCount yX1_messageCount, Cond.code yX1_messageCount cX1_messageCount 1 (some .int)]
def wsL_ask : List Cond := .codeWith yL_ask cL_ask 5 (some .int) [(0, 10, 13, 13), (0, 10, 17, 33)] :: ((wsL_ask_r1 ++ (wsL_ask_r2 ++ (wsL_ask_r3 ++ (wsL_ask_r4 ++ (wsL_ask_r5 ++ wsL_ask_r6))))) ++ wsX30 ++ wsX10 ++ wsX20 ++ wsX00 ++ (vx_atS RX3 149 "java/lang/IllegalArgumentException" ["java/lang/RuntimeException", "java/lang/Exception"]).filter goodWord ++ (vx_atS RX3 154 "java/lang/IllegalStateException" ["java/lang/RuntimeException", "java/lang/Exception"]).filter goodWord)
def wsL_answer_r1 : List Cond := [Cond.classLink RL 13 "java/lang/IllegalArgumentException", Cond.classLink RL 33 "java/lang/IllegalStateException", Cond.methodLink RL 41 yX3_answer, Cond.instanceMethod yX3_answer, Cond.selects RX3 yX3_answer yX3_answer, Cond.initialized RX3, Cond.code yX3_answer cX3_answer 2 (some .int), Cond.fieldLink RX3 21 "DirtyTiles" "clients" "[LDirtyTiles$Client;", Cond.methodLink RX3 42 yX3_isIndex, Cond.static yX3_isIndex, Cond.code yX3_isIndex cX3_isIndex 2 (some .boolean), Cond.methodLink RX3 38 yX3_requireArgument, Cond.static yX3_requireArgument, Cond.code yX3_requireArgument cX3_requireArgument 1 none, Cond.classLink RX3 145 "java/lang/IllegalArgumentException", Cond.initialized "java/lang/IllegalArgumentException", Cond.methodLink RX3 80 yX1_hasJoined, Cond.instanceMethod yX1_hasJoined, Cond.selects RX1 yX1_hasJoined yX1_hasJoined, Cond.initialized RX1, Cond.code yX1_hasJoined cX1_hasJoined 1 (some .boolean), Cond.fieldLink RX1 9 "DirtyTiles$Client" "joined" "Z", Cond.methodLink RX3 84 yX3_requireState, Cond.static yX3_requireState]
def wsL_answer_r2 : List Cond := [Cond.code yX3_requireState cX3_requireState 1 none, Cond.classLink RX3 150 "java/lang/IllegalStateException", Cond.initialized "java/lang/IllegalStateException", Cond.methodLink RX3 101 yX1_hasMessage, Cond.instanceMethod yX1_hasMessage, Cond.selects RX1 yX1_hasMessage yX1_hasMessage, Cond.code yX1_hasMessage cX1_hasMessage 1 (some .boolean), Cond.fieldLink RX1 47 "DirtyTiles$Client" "messageCount" "I", Cond.methodLink RX3 111 yX1_takeMessage, Cond.instanceMethod yX1_takeMessage, Cond.selects RX1 yX1_takeMessage yX1_takeMessage, Cond.code yX1_takeMessage cX1_takeMessage 3 (some .int), Cond.fieldLink RX1 18 "DirtyTiles$Client" "ownScreen" "LDirtyTiles$Screen;", Cond.fieldLink RX1 40 "DirtyTiles$Client" "messageTiles" "[I", Cond.fieldLink RX1 43 "DirtyTiles$Client" "messageCells" "[J", Cond.fieldLink RX1 25 "DirtyTiles$Client" "ownCache" "LDirtyTiles$Cache;", Cond.methodLink RX1 58 yX2_replaceTile, Cond.instanceMethod yX2_replaceTile, Cond.selects RX2 yX2_replaceTile yX2_replaceTile, Cond.initialized RX2, Cond.code yX2_replaceTile cX2_replaceTile 4 none, Cond.fieldLink RX2 9 "DirtyTiles$Screen" "tiles" "[J", Cond.methodLink RX1 54 yX0_bringToFront, Cond.instanceMethod yX0_bringToFront]
def wsL_answer_r3 : List Cond := [Cond.selects RX0 yX0_bringToFront yX0_bringToFront, Cond.initialized RX0, Cond.code yX0_bringToFront cX0_bringToFront 5 none, Cond.fieldLink RX0 15 "DirtyTiles$Cache" "count" "I", Cond.methodLink RX0 23 Lib.Math.min.name, Cond.static Lib.Math.min.name, Cond.initialized "java/lang/Math", Cond.code Lib.Math.min.name Lib.Math.min.code 2 (some .int), Cond.fieldLink RX0 9 "DirtyTiles$Cache" "tiles" "[J", Cond.methodLink RX0 19 yX0_placeOf, Cond.instanceMethod yX0_placeOf, Cond.selects RX0 yX0_placeOf yX0_placeOf, Cond.code yX0_placeOf cX0_placeOf 4 (some .int)]
def wsL_answer : List Cond := .codeWith yL_answer cL_answer 4 (some .int) [(0, 9, 12, 13), (0, 9, 15, 33)] :: ((wsL_answer_r1 ++ (wsL_answer_r2 ++ wsL_answer_r3)) ++ wsX30 ++ wsX10 ++ wsX20 ++ wsX00 ++ (vx_atS RX3 149 "java/lang/IllegalArgumentException" ["java/lang/RuntimeException", "java/lang/Exception"]).filter goodWord ++ (vx_atS RX3 154 "java/lang/IllegalStateException" ["java/lang/RuntimeException", "java/lang/Exception"]).filter goodWord)
def wsL_shown_r1 : List Cond := [Cond.classLink RL 13 "java/lang/IllegalArgumentException", Cond.classLink RL 33 "java/lang/IllegalStateException", Cond.methodLink RL 44 yX3_shown, Cond.instanceMethod yX3_shown, Cond.selects RX3 yX3_shown yX3_shown, Cond.initialized RX3, Cond.code yX3_shown cX3_shown 4 (some .int), Cond.fieldLink RX3 21 "DirtyTiles" "clients" "[LDirtyTiles$Client;", Cond.methodLink RX3 42 yX3_isIndex, Cond.static yX3_isIndex, Cond.code yX3_isIndex cX3_isIndex 2 (some .boolean), Cond.methodLink RX3 38 yX3_requireArgument, Cond.static yX3_requireArgument, Cond.code yX3_requireArgument cX3_requireArgument 1 none, Cond.classLink RX3 145 "java/lang/IllegalArgumentException", Cond.initialized "java/lang/IllegalArgumentException", Cond.methodLink RX3 62 yX3_isCell, Cond.static yX3_isCell, Cond.code yX3_isCell cX3_isCell 2 (some .boolean), Cond.methodLink RX3 80 yX1_hasJoined, Cond.instanceMethod yX1_hasJoined, Cond.selects RX1 yX1_hasJoined yX1_hasJoined, Cond.initialized RX1, Cond.code yX1_hasJoined cX1_hasJoined 1 (some .boolean)]
def wsL_shown_r2 : List Cond := [Cond.fieldLink RX1 9 "DirtyTiles$Client" "joined" "Z", Cond.methodLink RX3 84 yX3_requireState, Cond.static yX3_requireState, Cond.code yX3_requireState cX3_requireState 1 none, Cond.classLink RX3 150 "java/lang/IllegalStateException", Cond.initialized "java/lang/IllegalStateException", Cond.methodLink RX3 114 yX1_ownScreen, Cond.instanceMethod yX1_ownScreen, Cond.selects RX1 yX1_ownScreen yX1_ownScreen, Cond.code yX1_ownScreen cX1_ownScreen 1 (some (.object "DirtyTiles$Screen")), Cond.fieldLink RX1 18 "DirtyTiles$Client" "ownScreen" "LDirtyTiles$Screen;", Cond.methodLink RX3 65 yX2_colourAt, Cond.instanceMethod yX2_colourAt, Cond.selects RX2 yX2_colourAt yX2_colourAt, Cond.initialized RX2, Cond.code yX2_colourAt cX2_colourAt 3 (some .int), Cond.fieldLink RX2 9 "DirtyTiles$Screen" "tiles" "[J", Cond.methodLink RX2 15 yX2_tileOf, Cond.static yX2_tileOf, Cond.code yX2_tileOf cX2_tileOf 2 (some .int), Cond.methodLink RX2 19 yX2_placeInTile, Cond.static yX2_placeInTile, Cond.code yX2_placeInTile cX2_placeInTile 2 (some .int), Cond.static yX3_cellAt]
def wsL_shown_r3 : List Cond := [Cond.code yX3_cellAt cX3_cellAt 3 (some .int), Cond.constantLong RX3 180 (15)]
def wsL_shown : List Cond := .codeWith yL_shown cL_shown 6 (some .int) [(0, 12, 15, 13), (0, 12, 19, 33)] :: ((wsL_shown_r1 ++ (wsL_shown_r2 ++ wsL_shown_r3)) ++ wsX30 ++ wsX10 ++ wsX20 ++ (vx_atS RX3 149 "java/lang/IllegalArgumentException" ["java/lang/RuntimeException", "java/lang/Exception"]).filter goodWord ++ (vx_atS RX3 154 "java/lang/IllegalStateException" ["java/lang/RuntimeException", "java/lang/Exception"]).filter goodWord)
def wsL_unlike_r1 : List Cond := [Cond.classLink RL 13 "java/lang/IllegalArgumentException", Cond.classLink RL 33 "java/lang/IllegalStateException", Cond.methodLink RL 48 yX3_unlike, Cond.instanceMethod yX3_unlike, Cond.selects RX3 yX3_unlike yX3_unlike, Cond.initialized RX3, Cond.code yX3_unlike cX3_unlike 5 (some .int), Cond.fieldLink RX3 21 "DirtyTiles" "clients" "[LDirtyTiles$Client;", Cond.fieldLink RX3 10 "DirtyTiles" "screen" "LDirtyTiles$Screen;", Cond.methodLink RX3 42 yX3_isIndex, Cond.static yX3_isIndex, Cond.code yX3_isIndex cX3_isIndex 2 (some .boolean), Cond.methodLink RX3 38 yX3_requireArgument, Cond.static yX3_requireArgument, Cond.code yX3_requireArgument cX3_requireArgument 1 none, Cond.classLink RX3 145 "java/lang/IllegalArgumentException", Cond.initialized "java/lang/IllegalArgumentException", Cond.methodLink RX3 80 yX1_hasJoined, Cond.instanceMethod yX1_hasJoined, Cond.selects RX1 yX1_hasJoined yX1_hasJoined, Cond.initialized RX1, Cond.code yX1_hasJoined cX1_hasJoined 1 (some .boolean), Cond.fieldLink RX1 9 "DirtyTiles$Client" "joined" "Z", Cond.methodLink RX3 84 yX3_requireState]
def wsL_unlike_r2 : List Cond := [Cond.static yX3_requireState, Cond.code yX3_requireState cX3_requireState 1 none, Cond.classLink RX3 150 "java/lang/IllegalStateException", Cond.initialized "java/lang/IllegalStateException", Cond.methodLink RX3 114 yX1_ownScreen, Cond.instanceMethod yX1_ownScreen, Cond.selects RX1 yX1_ownScreen yX1_ownScreen, Cond.code yX1_ownScreen cX1_ownScreen 1 (some (.object "DirtyTiles$Screen")), Cond.fieldLink RX1 18 "DirtyTiles$Client" "ownScreen" "LDirtyTiles$Screen;", Cond.methodLink RX3 69 yX2_cellsOf, Cond.instanceMethod yX2_cellsOf, Cond.selects RX2 yX2_cellsOf yX2_cellsOf, Cond.initialized RX2, Cond.code yX2_cellsOf cX2_cellsOf 2 (some .long), Cond.fieldLink RX2 9 "DirtyTiles$Screen" "tiles" "[J", Cond.methodLink RX3 118 yX3_countDifferent, Cond.static yX3_countDifferent, Cond.code yX3_countDifferent cX3_countDifferent 6 (some .int), Cond.methodLink RX3 182 yX3_cellAt, Cond.static yX3_cellAt, Cond.code yX3_cellAt cX3_cellAt 3 (some .int), Cond.constantLong RX3 180 (15)]
def wsL_unlike : List Cond := .codeWith yL_unlike cL_unlike 4 (some .int) [(0, 9, 12, 13), (0, 9, 15, 33)] :: ((wsL_unlike_r1 ++ wsL_unlike_r2) ++ wsX30 ++ wsX10 ++ wsX20 ++ (vx_atS RX3 149 "java/lang/IllegalArgumentException" ["java/lang/RuntimeException", "java/lang/Exception"]).filter goodWord ++ (vx_atS RX3 154 "java/lang/IllegalStateException" ["java/lang/RuntimeException", "java/lang/Exception"]).filter goodWord)
def wsL_dirty_r1 : List Cond := [Cond.classLink RL 13 "java/lang/IllegalArgumentException", Cond.classLink RL 33 "java/lang/IllegalStateException", Cond.methodLink RL 51 yX3_dirty, Cond.instanceMethod yX3_dirty, Cond.selects RX3 yX3_dirty yX3_dirty, Cond.initialized RX3, Cond.code yX3_dirty cX3_dirty 2 (some .int), Cond.fieldLink RX3 21 "DirtyTiles" "clients" "[LDirtyTiles$Client;", Cond.methodLink RX3 42 yX3_isIndex, Cond.static yX3_isIndex, Cond.code yX3_isIndex cX3_isIndex 2 (some .boolean), Cond.methodLink RX3 38 yX3_requireArgument, Cond.static yX3_requireArgument, Cond.code yX3_requireArgument cX3_requireArgument 1 none, Cond.classLink RX3 145 "java/lang/IllegalArgumentException", Cond.initialized "java/lang/IllegalArgumentException", Cond.methodLink RX3 80 yX1_hasJoined, Cond.instanceMethod yX1_hasJoined, Cond.selects RX1 yX1_hasJoined yX1_hasJoined, Cond.initialized RX1, Cond.code yX1_hasJoined cX1_hasJoined 1 (some .boolean), Cond.fieldLink RX1 9 "DirtyTiles$Client" "joined" "Z", Cond.methodLink RX3 84 yX3_requireState, Cond.static yX3_requireState]
def wsL_dirty_r2 : List Cond := [Cond.code yX3_requireState cX3_requireState 1 none, Cond.classLink RX3 150 "java/lang/IllegalStateException", Cond.initialized "java/lang/IllegalStateException", Cond.methodLink RX3 98 yX1_dirtyCount, Cond.instanceMethod yX1_dirtyCount, Cond.selects RX1 yX1_dirtyCount yX1_dirtyCount, Cond.code yX1_dirtyCount cX1_dirtyCount 1 (some .int), Cond.fieldLink RX1 36 "DirtyTiles$Client" "dirtyCount" "I"]
def wsL_dirty : List Cond := .codeWith yL_dirty cL_dirty 4 (some .int) [(0, 9, 12, 13), (0, 9, 15, 33)] :: ((wsL_dirty_r1 ++ wsL_dirty_r2) ++ wsX30 ++ wsX10 ++ (vx_atS RX3 149 "java/lang/IllegalArgumentException" ["java/lang/RuntimeException", "java/lang/Exception"]).filter goodWord ++ (vx_atS RX3 154 "java/lang/IllegalStateException" ["java/lang/RuntimeException", "java/lang/Exception"]).filter goodWord)
def wsL_dirtyAt_r1 : List Cond := [Cond.classLink RL 13 "java/lang/IllegalArgumentException", Cond.classLink RL 33 "java/lang/IllegalStateException", Cond.classLink RL 57 "java/lang/IndexOutOfBoundsException", Cond.methodLink RL 54 yX3_dirtyAt, Cond.instanceMethod yX3_dirtyAt, Cond.selects RX3 yX3_dirtyAt yX3_dirtyAt, Cond.initialized RX3, Cond.code yX3_dirtyAt cX3_dirtyAt 3 (some .int), Cond.classLink RX3 122 "java/lang/IndexOutOfBoundsException", Cond.initialized "java/lang/IndexOutOfBoundsException", Cond.fieldLink RX3 21 "DirtyTiles" "clients" "[LDirtyTiles$Client;", Cond.methodLink RX3 42 yX3_isIndex, Cond.static yX3_isIndex, Cond.code yX3_isIndex cX3_isIndex 2 (some .boolean), Cond.methodLink RX3 38 yX3_requireArgument, Cond.static yX3_requireArgument, Cond.code yX3_requireArgument cX3_requireArgument 1 none, Cond.classLink RX3 145 "java/lang/IllegalArgumentException", Cond.initialized "java/lang/IllegalArgumentException", Cond.methodLink RX3 80 yX1_hasJoined, Cond.instanceMethod yX1_hasJoined, Cond.selects RX1 yX1_hasJoined yX1_hasJoined, Cond.initialized RX1, Cond.code yX1_hasJoined cX1_hasJoined 1 (some .boolean)]
def wsL_dirtyAt_r2 : List Cond := [Cond.fieldLink RX1 9 "DirtyTiles$Client" "joined" "Z", Cond.methodLink RX3 84 yX3_requireState, Cond.static yX3_requireState, Cond.code yX3_requireState cX3_requireState 1 none, Cond.classLink RX3 150 "java/lang/IllegalStateException", Cond.initialized "java/lang/IllegalStateException", Cond.methodLink RX3 98 yX1_dirtyCount, Cond.instanceMethod yX1_dirtyCount, Cond.selects RX1 yX1_dirtyCount yX1_dirtyCount, Cond.code yX1_dirtyCount cX1_dirtyCount 1 (some .int), Cond.fieldLink RX1 36 "DirtyTiles$Client" "dirtyCount" "I", Cond.methodLink RX3 129 yX1_dirtyTileAt, Cond.instanceMethod yX1_dirtyTileAt, Cond.selects RX1 yX1_dirtyTileAt yX1_dirtyTileAt, Cond.code yX1_dirtyTileAt cX1_dirtyTileAt 2 (some .int), Cond.fieldLink RX1 32 "DirtyTiles$Client" "dirtyTiles" "[I"]
def wsL_dirtyAt : List Cond := .codeWith yL_dirtyAt cL_dirtyAt 5 (some .int) [(0, 10, 13, 13), (0, 10, 17, 33), (0, 10, 21, 57)] :: ((wsL_dirtyAt_r1 ++ wsL_dirtyAt_r2) ++ wsX30 ++ wsX10 ++ (vx_atS RX3 126 "java/lang/IndexOutOfBoundsException" ["java/lang/RuntimeException", "java/lang/Exception"]).filter goodWord ++ (vx_atS RX3 149 "java/lang/IllegalArgumentException" ["java/lang/RuntimeException", "java/lang/Exception"]).filter goodWord ++ (vx_atS RX3 154 "java/lang/IllegalStateException" ["java/lang/RuntimeException", "java/lang/Exception"]).filter goodWord)
def wsL_cached_r1 : List Cond := [Cond.classLink RL 13 "java/lang/IllegalArgumentException", Cond.classLink RL 33 "java/lang/IllegalStateException", Cond.methodLink RL 59 yX3_cached, Cond.instanceMethod yX3_cached, Cond.selects RX3 yX3_cached yX3_cached, Cond.initialized RX3, Cond.code yX3_cached cX3_cached 2 (some .int), Cond.fieldLink RX3 21 "DirtyTiles" "clients" "[LDirtyTiles$Client;", Cond.methodLink RX3 42 yX3_isIndex, Cond.static yX3_isIndex, Cond.code yX3_isIndex cX3_isIndex 2 (some .boolean), Cond.methodLink RX3 38 yX3_requireArgument, Cond.static yX3_requireArgument, Cond.code yX3_requireArgument cX3_requireArgument 1 none, Cond.classLink RX3 145 "java/lang/IllegalArgumentException", Cond.initialized "java/lang/IllegalArgumentException", Cond.methodLink RX3 80 yX1_hasJoined, Cond.instanceMethod yX1_hasJoined, Cond.selects RX1 yX1_hasJoined yX1_hasJoined, Cond.initialized RX1, Cond.code yX1_hasJoined cX1_hasJoined 1 (some .boolean), Cond.fieldLink RX1 9 "DirtyTiles$Client" "joined" "Z", Cond.methodLink RX3 84 yX3_requireState, Cond.static yX3_requireState]
def wsL_cached_r2 : List Cond := [Cond.code yX3_requireState cX3_requireState 1 none, Cond.classLink RX3 150 "java/lang/IllegalStateException", Cond.initialized "java/lang/IllegalStateException", Cond.methodLink RX3 133 yX1_ownCache, Cond.instanceMethod yX1_ownCache, Cond.selects RX1 yX1_ownCache yX1_ownCache, Cond.code yX1_ownCache cX1_ownCache 1 (some (.object "DirtyTiles$Cache")), Cond.fieldLink RX1 25 "DirtyTiles$Client" "ownCache" "LDirtyTiles$Cache;", Cond.methodLink RX3 136 yX0_size, Cond.instanceMethod yX0_size, Cond.selects RX0 yX0_size yX0_size, Cond.initialized RX0, Cond.code yX0_size cX0_size 1 (some .int), Cond.fieldLink RX0 15 "DirtyTiles$Cache" "count" "I"]
def wsL_cached : List Cond := .codeWith yL_cached cL_cached 4 (some .int) [(0, 9, 12, 13), (0, 9, 15, 33)] :: ((wsL_cached_r1 ++ wsL_cached_r2) ++ wsX30 ++ wsX10 ++ wsX00 ++ (vx_atS RX3 149 "java/lang/IllegalArgumentException" ["java/lang/RuntimeException", "java/lang/Exception"]).filter goodWord ++ (vx_atS RX3 154 "java/lang/IllegalStateException" ["java/lang/RuntimeException", "java/lang/Exception"]).filter goodWord)
def wsL_isAlike_r1 : List Cond := [Cond.classLink RL 13 "java/lang/IllegalArgumentException", Cond.classLink RL 33 "java/lang/IllegalStateException", Cond.methodLink RL 62 yX3_isAlike, Cond.instanceMethod yX3_isAlike, Cond.selects RX3 yX3_isAlike yX3_isAlike, Cond.initialized RX3, Cond.code yX3_isAlike cX3_isAlike 2 (some .boolean), Cond.fieldLink RX3 21 "DirtyTiles" "clients" "[LDirtyTiles$Client;", Cond.methodLink RX3 42 yX3_isIndex, Cond.static yX3_isIndex, Cond.code yX3_isIndex cX3_isIndex 2 (some .boolean), Cond.methodLink RX3 38 yX3_requireArgument, Cond.static yX3_requireArgument, Cond.code yX3_requireArgument cX3_requireArgument 1 none, Cond.classLink RX3 145 "java/lang/IllegalArgumentException", Cond.initialized "java/lang/IllegalArgumentException", Cond.methodLink RX3 80 yX1_hasJoined, Cond.instanceMethod yX1_hasJoined, Cond.selects RX1 yX1_hasJoined yX1_hasJoined, Cond.initialized RX1, Cond.code yX1_hasJoined cX1_hasJoined 1 (some .boolean), Cond.fieldLink RX1 9 "DirtyTiles$Client" "joined" "Z", Cond.methodLink RX3 84 yX3_requireState, Cond.static yX3_requireState]
def wsL_isAlike_r2 : List Cond := [Cond.code yX3_requireState cX3_requireState 1 none, Cond.classLink RX3 150 "java/lang/IllegalStateException", Cond.initialized "java/lang/IllegalStateException", Cond.methodLink RX3 87 yX1_serverCache, Cond.instanceMethod yX1_serverCache, Cond.selects RX1 yX1_serverCache yX1_serverCache, Cond.code yX1_serverCache cX1_serverCache 1 (some (.object "DirtyTiles$Cache")), Cond.fieldLink RX1 29 "DirtyTiles$Client" "serverCache" "LDirtyTiles$Cache;", Cond.methodLink RX3 133 yX1_ownCache, Cond.instanceMethod yX1_ownCache, Cond.selects RX1 yX1_ownCache yX1_ownCache, Cond.code yX1_ownCache cX1_ownCache 1 (some (.object "DirtyTiles$Cache")), Cond.fieldLink RX1 25 "DirtyTiles$Client" "ownCache" "LDirtyTiles$Cache;", Cond.methodLink RX3 141 yX0_hasSameTilesAs, Cond.instanceMethod yX0_hasSameTilesAs, Cond.selects RX0 yX0_hasSameTilesAs yX0_hasSameTilesAs, Cond.initialized RX0, Cond.code yX0_hasSameTilesAs cX0_hasSameTilesAs 3 (some .boolean), Cond.fieldLink RX0 15 "DirtyTiles$Cache" "count" "I", Cond.fieldLink RX0 9 "DirtyTiles$Cache" "tiles" "[J"]
def wsL_isAlike : List Cond := .codeWith yL_isAlike cL_isAlike 4 (some .int) [(0, 16, 19, 13), (0, 16, 22, 33)] :: ((wsL_isAlike_r1 ++ wsL_isAlike_r2) ++ wsX30 ++ wsX10 ++ wsX00 ++ (vx_atS RX3 149 "java/lang/IllegalArgumentException" ["java/lang/RuntimeException", "java/lang/Exception"]).filter goodWord ++ (vx_atS RX3 154 "java/lang/IllegalStateException" ["java/lang/RuntimeException", "java/lang/Exception"]).filter goodWord)
def wsL_written : List Cond := .codeWith yL_written cL_written 4 (some .int) [(0, 9, 12, 13)] :: ([.classLink RL 13 "java/lang/IllegalArgumentException", .methodLink RL 66 yX3_written, .instanceMethod yX3_written, .selects RX3 yX3_written yX3_written, .initialized RX3, .code yX3_written cX3_written 2 (some .int), .fieldLink RX3 25 "DirtyTiles" "tilesWritten" "[I", .methodLink RX3 42 yX3_isIndex, .static yX3_isIndex, .code yX3_isIndex cX3_isIndex 2 (some .boolean), .methodLink RX3 38 yX3_requireArgument, .static yX3_requireArgument, .code yX3_requireArgument cX3_requireArgument 1 none, .classLink RX3 145 "java/lang/IllegalArgumentException", .initialized "java/lang/IllegalArgumentException"] ++ wsX30 ++ (vx_atS RX3 149 "java/lang/IllegalArgumentException" ["java/lang/RuntimeException", "java/lang/Exception"]).filter goodWord)
theorem dX0_init_0 : decode cX0_init 0 = .ok (.aload_n 0, 1) := by decide +kernel
theorem dX0_init_1 : decode cX0_init 1 = .ok (.invokespecial 3, 3) := by decide +kernel
theorem dX0_init_4 : decode cX0_init 4 = .ok (.aload_n 0, 1) := by decide +kernel
theorem dX0_init_5 : decode cX0_init 5 = .ok (.bipush 6, 2) := by decide +kernel
theorem dX0_init_7 : decode cX0_init 7 = .ok (.newarray .long, 2) := by decide +kernel
theorem dX0_init_9 : decode cX0_init 9 = .ok (.putfield 9, 3) := by decide +kernel
theorem dX0_init_12 : decode cX0_init 12 = .ok (.aload_n 0, 1) := by decide +kernel
theorem dX0_init_13 : decode cX0_init 13 = .ok (.iconst 0, 1) := by decide +kernel
theorem dX0_init_14 : decode cX0_init 14 = .ok (.putfield 15, 3) := by decide +kernel
theorem dX0_init_17 : decode cX0_init 17 = .ok (.return_, 1) := by decide +kernel
theorem dX0_size_0 : decode cX0_size 0 = .ok (.aload_n 0, 1) := by decide +kernel
theorem dX0_size_1 : decode cX0_size 1 = .ok (.getfield 15, 3) := by decide +kernel
theorem dX0_size_4 : decode cX0_size 4 = .ok (.ireturn, 1) := by decide +kernel
theorem dX0_clear_0 : decode cX0_clear 0 = .ok (.aload_n 0, 1) := by decide +kernel
theorem dX0_clear_1 : decode cX0_clear 1 = .ok (.iconst 0, 1) := by decide +kernel
theorem dX0_clear_2 : decode cX0_clear 2 = .ok (.putfield 15, 3) := by decide +kernel
theorem dX0_clear_5 : decode cX0_clear 5 = .ok (.return_, 1) := by decide +kernel
set_option maxRecDepth 20000 in
theorem ggX0_holds_X0_placeOf : GoodIn wsX0_holds wsX0_placeOf := goodIn_r _ [6, 1, 7, 8, 9] (by decide +kernel) (by decide +kernel)
set_option maxRecDepth 20000 in
theorem gX0_holds_X0_placeOf : GoodIn wsX0_holds (wsV RX0 19 RX0 yX0_placeOf wsX0_placeOf) := goodIn_app (goodIn_of _ (by decide +kernel)) ggX0_holds_X0_placeOf
theorem dX0_holds_0 : decode cX0_holds 0 = .ok (.aload_n 0, 1) := by decide +kernel
theorem dX0_holds_1 : decode cX0_holds 1 = .ok (.lload_n 1, 1) := by decide +kernel
theorem dX0_holds_2 : decode cX0_holds 2 = .ok (.invokevirtual 19, 3) := by decide +kernel
theorem dX0_holds_5 : decode cX0_holds 5 = .ok (.aload_n 0, 1) := by decide +kernel
theorem dX0_holds_6 : decode cX0_holds 6 = .ok (.getfield 15, 3) := by decide +kernel
theorem dX0_holds_9 : decode cX0_holds 9 = .ok (.if_icmp .ge 7, 3) := by decide +kernel
theorem dX0_holds_12 : decode cX0_holds 12 = .ok (.iconst 1, 1) := by decide +kernel
theorem dX0_holds_13 : decode cX0_holds 13 = .ok (.goto 4, 3) := by decide +kernel
theorem dX0_holds_16 : decode cX0_holds 16 = .ok (.iconst 0, 1) := by decide +kernel
theorem dX0_holds_17 : decode cX0_holds 17 = .ok (.ireturn, 1) := by decide +kernel
set_option maxRecDepth 20000 in
theorem ggX0_bringToFront_X0_placeOf : GoodIn wsX0_bringToFront wsX0_placeOf := goodIn_r _ [11, 1, 6, 12, 13] (by decide +kernel) (by decide +kernel)
set_option maxRecDepth 20000 in
theorem gX0_bringToFront_X0_placeOf : GoodIn wsX0_bringToFront (wsV RX0 19 RX0 yX0_placeOf wsX0_placeOf) := goodIn_app (goodIn_of _ (by decide +kernel)) ggX0_bringToFront_X0_placeOf
theorem dX0_bringToFront_0 : decode cX0_bringToFront 0 = .ok (.aload_n 0, 1) := by decide +kernel
theorem dX0_bringToFront_1 : decode cX0_bringToFront 1 = .ok (.lload_n 1, 1) := by decide +kernel
theorem dX0_bringToFront_2 : decode cX0_bringToFront 2 = .ok (.invokevirtual 19, 3) := by decide +kernel
theorem dX0_bringToFront_5 : decode cX0_bringToFront 5 = .ok (.istore_n 3, 1) := by decide +kernel
theorem dX0_bringToFront_6 : decode cX0_bringToFront 6 = .ok (.iload_n 3, 1) := by decide +kernel
theorem dX0_bringToFront_7 : decode cX0_bringToFront 7 = .ok (.aload_n 0, 1) := by decide +kernel
theorem dX0_bringToFront_8 : decode cX0_bringToFront 8 = .ok (.getfield 15, 3) := by decide +kernel
theorem dX0_bringToFront_11 : decode cX0_bringToFront 11 = .ok (.if_icmp .ne 22, 3) := by decide +kernel
theorem dX0_bringToFront_14 : decode cX0_bringToFront 14 = .ok (.aload_n 0, 1) := by decide +kernel
theorem dX0_bringToFront_15 : decode cX0_bringToFront 15 = .ok (.getfield 15, 3) := by decide +kernel
theorem dX0_bringToFront_18 : decode cX0_bringToFront 18 = .ok (.bipush 6, 2) := by decide +kernel
theorem dX0_bringToFront_20 : decode cX0_bringToFront 20 = .ok (.if_icmp .ge 13, 3) := by decide +kernel
theorem dX0_bringToFront_23 : decode cX0_bringToFront 23 = .ok (.aload_n 0, 1) := by decide +kernel
theorem dX0_bringToFront_24 : decode cX0_bringToFront 24 = .ok (.dup, 1) := by decide +kernel
theorem dX0_bringToFront_25 : decode cX0_bringToFront 25 = .ok (.getfield 15, 3) := by decide +kernel
theorem dX0_bringToFront_28 : decode cX0_bringToFront 28 = .ok (.iconst 1, 1) := by decide +kernel
theorem dX0_bringToFront_29 : decode cX0_bringToFront 29 = .ok (.iadd, 1) := by decide +kernel
theorem dX0_bringToFront_30 : decode cX0_bringToFront 30 = .ok (.putfield 15, 3) := by decide +kernel
theorem dX0_bringToFront_33 : decode cX0_bringToFront 33 = .ok (.iload_n 3, 1) := by decide +kernel
theorem dX0_bringToFront_34 : decode cX0_bringToFront 34 = .ok (.iconst 5, 1) := by decide +kernel
theorem dX0_bringToFront_35 : decode cX0_bringToFront 35 = .ok (.invokestatic 23, 3) := by decide +kernel
theorem dX0_bringToFront_38 : decode cX0_bringToFront 38 = .ok (.istore 4, 2) := by decide +kernel
theorem dX0_bringToFront_40 : decode cX0_bringToFront 40 = .ok (.iload 4, 2) := by decide +kernel
theorem dX0_bringToFront_42 : decode cX0_bringToFront 42 = .ok (.ifCond .le 25, 3) := by decide +kernel
theorem dX0_bringToFront_45 : decode cX0_bringToFront 45 = .ok (.aload_n 0, 1) := by decide +kernel
theorem dX0_bringToFront_46 : decode cX0_bringToFront 46 = .ok (.getfield 9, 3) := by decide +kernel
theorem dX0_bringToFront_49 : decode cX0_bringToFront 49 = .ok (.iload 4, 2) := by decide +kernel
theorem dX0_bringToFront_51 : decode cX0_bringToFront 51 = .ok (.aload_n 0, 1) := by decide +kernel
theorem dX0_bringToFront_52 : decode cX0_bringToFront 52 = .ok (.getfield 9, 3) := by decide +kernel
theorem dX0_bringToFront_55 : decode cX0_bringToFront 55 = .ok (.iload 4, 2) := by decide +kernel
theorem dX0_bringToFront_57 : decode cX0_bringToFront 57 = .ok (.iconst 1, 1) := by decide +kernel
theorem dX0_bringToFront_58 : decode cX0_bringToFront 58 = .ok (.isub, 1) := by decide +kernel
theorem dX0_bringToFront_59 : decode cX0_bringToFront 59 = .ok (.laload, 1) := by decide +kernel
theorem dX0_bringToFront_60 : decode cX0_bringToFront 60 = .ok (.lastore, 1) := by decide +kernel
theorem dX0_bringToFront_61 : decode cX0_bringToFront 61 = .ok (.iinc 4 (-1), 3) := by decide +kernel
theorem dX0_bringToFront_64 : decode cX0_bringToFront 64 = .ok (.goto (-24), 3) := by decide +kernel
theorem dX0_bringToFront_67 : decode cX0_bringToFront 67 = .ok (.aload_n 0, 1) := by decide +kernel
theorem dX0_bringToFront_68 : decode cX0_bringToFront 68 = .ok (.getfield 9, 3) := by decide +kernel
theorem dX0_bringToFront_71 : decode cX0_bringToFront 71 = .ok (.iconst 0, 1) := by decide +kernel
theorem dX0_bringToFront_72 : decode cX0_bringToFront 72 = .ok (.lload_n 1, 1) := by decide +kernel
theorem dX0_bringToFront_73 : decode cX0_bringToFront 73 = .ok (.lastore, 1) := by decide +kernel
theorem dX0_bringToFront_74 : decode cX0_bringToFront 74 = .ok (.return_, 1) := by decide +kernel
theorem dX0_hasSameTilesAs_0 : decode cX0_hasSameTilesAs 0 = .ok (.aload_n 0, 1) := by decide +kernel
theorem dX0_hasSameTilesAs_1 : decode cX0_hasSameTilesAs 1 = .ok (.getfield 15, 3) := by decide +kernel
theorem dX0_hasSameTilesAs_4 : decode cX0_hasSameTilesAs 4 = .ok (.aload_n 1, 1) := by decide +kernel
theorem dX0_hasSameTilesAs_5 : decode cX0_hasSameTilesAs 5 = .ok (.getfield 15, 3) := by decide +kernel
theorem dX0_hasSameTilesAs_8 : decode cX0_hasSameTilesAs 8 = .ok (.if_icmp .eq 5, 3) := by decide +kernel
theorem dX0_hasSameTilesAs_11 : decode cX0_hasSameTilesAs 11 = .ok (.iconst 0, 1) := by decide +kernel
theorem dX0_hasSameTilesAs_12 : decode cX0_hasSameTilesAs 12 = .ok (.ireturn, 1) := by decide +kernel
theorem dX0_hasSameTilesAs_13 : decode cX0_hasSameTilesAs 13 = .ok (.iconst 0, 1) := by decide +kernel
theorem dX0_hasSameTilesAs_14 : decode cX0_hasSameTilesAs 14 = .ok (.istore_n 2, 1) := by decide +kernel
theorem dX0_hasSameTilesAs_15 : decode cX0_hasSameTilesAs 15 = .ok (.iload_n 2, 1) := by decide +kernel
theorem dX0_hasSameTilesAs_16 : decode cX0_hasSameTilesAs 16 = .ok (.aload_n 0, 1) := by decide +kernel
theorem dX0_hasSameTilesAs_17 : decode cX0_hasSameTilesAs 17 = .ok (.getfield 15, 3) := by decide +kernel
theorem dX0_hasSameTilesAs_20 : decode cX0_hasSameTilesAs 20 = .ok (.if_icmp .ge 27, 3) := by decide +kernel
theorem dX0_hasSameTilesAs_23 : decode cX0_hasSameTilesAs 23 = .ok (.aload_n 0, 1) := by decide +kernel
theorem dX0_hasSameTilesAs_24 : decode cX0_hasSameTilesAs 24 = .ok (.getfield 9, 3) := by decide +kernel
theorem dX0_hasSameTilesAs_27 : decode cX0_hasSameTilesAs 27 = .ok (.iload_n 2, 1) := by decide +kernel
theorem dX0_hasSameTilesAs_28 : decode cX0_hasSameTilesAs 28 = .ok (.laload, 1) := by decide +kernel
theorem dX0_hasSameTilesAs_29 : decode cX0_hasSameTilesAs 29 = .ok (.aload_n 1, 1) := by decide +kernel
theorem dX0_hasSameTilesAs_30 : decode cX0_hasSameTilesAs 30 = .ok (.getfield 9, 3) := by decide +kernel
theorem dX0_hasSameTilesAs_33 : decode cX0_hasSameTilesAs 33 = .ok (.iload_n 2, 1) := by decide +kernel
theorem dX0_hasSameTilesAs_34 : decode cX0_hasSameTilesAs 34 = .ok (.laload, 1) := by decide +kernel
theorem dX0_hasSameTilesAs_35 : decode cX0_hasSameTilesAs 35 = .ok (.lcmp, 1) := by decide +kernel
theorem dX0_hasSameTilesAs_36 : decode cX0_hasSameTilesAs 36 = .ok (.ifCond .eq 5, 3) := by decide +kernel
theorem dX0_hasSameTilesAs_39 : decode cX0_hasSameTilesAs 39 = .ok (.iconst 0, 1) := by decide +kernel
theorem dX0_hasSameTilesAs_40 : decode cX0_hasSameTilesAs 40 = .ok (.ireturn, 1) := by decide +kernel
theorem dX0_hasSameTilesAs_41 : decode cX0_hasSameTilesAs 41 = .ok (.iinc 2 1, 3) := by decide +kernel
theorem dX0_hasSameTilesAs_44 : decode cX0_hasSameTilesAs 44 = .ok (.goto (-29), 3) := by decide +kernel
theorem dX0_hasSameTilesAs_47 : decode cX0_hasSameTilesAs 47 = .ok (.iconst 1, 1) := by decide +kernel
theorem dX0_hasSameTilesAs_48 : decode cX0_hasSameTilesAs 48 = .ok (.ireturn, 1) := by decide +kernel
theorem dX0_placeOf_0 : decode cX0_placeOf 0 = .ok (.iconst 0, 1) := by decide +kernel
theorem dX0_placeOf_1 : decode cX0_placeOf 1 = .ok (.istore_n 3, 1) := by decide +kernel
theorem dX0_placeOf_2 : decode cX0_placeOf 2 = .ok (.iload_n 3, 1) := by decide +kernel
theorem dX0_placeOf_3 : decode cX0_placeOf 3 = .ok (.aload_n 0, 1) := by decide +kernel
theorem dX0_placeOf_4 : decode cX0_placeOf 4 = .ok (.getfield 15, 3) := by decide +kernel
theorem dX0_placeOf_7 : decode cX0_placeOf 7 = .ok (.if_icmp .ge 22, 3) := by decide +kernel
theorem dX0_placeOf_10 : decode cX0_placeOf 10 = .ok (.aload_n 0, 1) := by decide +kernel
theorem dX0_placeOf_11 : decode cX0_placeOf 11 = .ok (.getfield 9, 3) := by decide +kernel
theorem dX0_placeOf_14 : decode cX0_placeOf 14 = .ok (.iload_n 3, 1) := by decide +kernel
theorem dX0_placeOf_15 : decode cX0_placeOf 15 = .ok (.laload, 1) := by decide +kernel
theorem dX0_placeOf_16 : decode cX0_placeOf 16 = .ok (.lload_n 1, 1) := by decide +kernel
theorem dX0_placeOf_17 : decode cX0_placeOf 17 = .ok (.lcmp, 1) := by decide +kernel
theorem dX0_placeOf_18 : decode cX0_placeOf 18 = .ok (.ifCond .ne 5, 3) := by decide +kernel
theorem dX0_placeOf_21 : decode cX0_placeOf 21 = .ok (.iload_n 3, 1) := by decide +kernel
theorem dX0_placeOf_22 : decode cX0_placeOf 22 = .ok (.ireturn, 1) := by decide +kernel
theorem dX0_placeOf_23 : decode cX0_placeOf 23 = .ok (.iinc 3 1, 3) := by decide +kernel
theorem dX0_placeOf_26 : decode cX0_placeOf 26 = .ok (.goto (-24), 3) := by decide +kernel
theorem dX0_placeOf_29 : decode cX0_placeOf 29 = .ok (.aload_n 0, 1) := by decide +kernel
theorem dX0_placeOf_30 : decode cX0_placeOf 30 = .ok (.getfield 15, 3) := by decide +kernel
theorem dX0_placeOf_33 : decode cX0_placeOf 33 = .ok (.ireturn, 1) := by decide +kernel
set_option maxRecDepth 20000 in
theorem ggX1_init_X2_init : GoodIn wsX1_init wsX2_init := goodIn_r _ [22, 23, 2, 3, 18, 24, 39] (by decide +kernel) (by decide +kernel)
set_option maxRecDepth 20000 in
theorem gX1_init_X2_init_n17 : GoodIn wsX1_init (wsX2_init) := ggX1_init_X2_init
set_option maxRecDepth 20000 in
theorem ggX1_init_X0_init : GoodIn wsX1_init wsX0_init := goodIn_r _ [26, 27, 2, 3, 18, 28, 29, 40, 41] (by decide +kernel) (by decide +kernel)
set_option maxRecDepth 20000 in
theorem gX1_init_X0_init_n24 : GoodIn wsX1_init (wsX0_init) := ggX1_init_X0_init
theorem dX1_init_0 : decode cX1_init 0 = .ok (.aload_n 0, 1) := by decide +kernel
theorem dX1_init_1 : decode cX1_init 1 = .ok (.invokespecial 3, 3) := by decide +kernel
theorem dX1_init_4 : decode cX1_init 4 = .ok (.aload_n 0, 1) := by decide +kernel
theorem dX1_init_5 : decode cX1_init 5 = .ok (.iconst 0, 1) := by decide +kernel
theorem dX1_init_6 : decode cX1_init 6 = .ok (.putfield 9, 3) := by decide +kernel
theorem dX1_init_9 : decode cX1_init 9 = .ok (.aload_n 0, 1) := by decide +kernel
theorem dX1_init_10 : decode cX1_init 10 = .ok (.new 15, 3) := by decide +kernel
theorem dX1_init_13 : decode cX1_init 13 = .ok (.dup, 1) := by decide +kernel
theorem dX1_init_14 : decode cX1_init 14 = .ok (.invokespecial 17, 3) := by decide +kernel
theorem dX1_init_17 : decode cX1_init 17 = .ok (.putfield 18, 3) := by decide +kernel
theorem dX1_init_20 : decode cX1_init 20 = .ok (.aload_n 0, 1) := by decide +kernel
theorem dX1_init_21 : decode cX1_init 21 = .ok (.new 22, 3) := by decide +kernel
theorem dX1_init_24 : decode cX1_init 24 = .ok (.dup, 1) := by decide +kernel
theorem dX1_init_25 : decode cX1_init 25 = .ok (.invokespecial 24, 3) := by decide +kernel
theorem dX1_init_28 : decode cX1_init 28 = .ok (.putfield 25, 3) := by decide +kernel
theorem dX1_init_31 : decode cX1_init 31 = .ok (.aload_n 0, 1) := by decide +kernel
theorem dX1_init_32 : decode cX1_init 32 = .ok (.new 22, 3) := by decide +kernel
theorem dX1_init_35 : decode cX1_init 35 = .ok (.dup, 1) := by decide +kernel
theorem dX1_init_36 : decode cX1_init 36 = .ok (.invokespecial 24, 3) := by decide +kernel
theorem dX1_init_39 : decode cX1_init 39 = .ok (.putfield 29, 3) := by decide +kernel
theorem dX1_init_42 : decode cX1_init 42 = .ok (.aload_n 0, 1) := by decide +kernel
theorem dX1_init_43 : decode cX1_init 43 = .ok (.bipush 12, 2) := by decide +kernel
theorem dX1_init_45 : decode cX1_init 45 = .ok (.newarray .int, 2) := by decide +kernel
theorem dX1_init_47 : decode cX1_init 47 = .ok (.putfield 32, 3) := by decide +kernel
theorem dX1_init_50 : decode cX1_init 50 = .ok (.aload_n 0, 1) := by decide +kernel
theorem dX1_init_51 : decode cX1_init 51 = .ok (.iconst 0, 1) := by decide +kernel
theorem dX1_init_52 : decode cX1_init 52 = .ok (.putfield 36, 3) := by decide +kernel
theorem dX1_init_55 : decode cX1_init 55 = .ok (.aload_n 0, 1) := by decide +kernel
theorem dX1_init_56 : decode cX1_init 56 = .ok (.bipush 12, 2) := by decide +kernel
theorem dX1_init_58 : decode cX1_init 58 = .ok (.newarray .int, 2) := by decide +kernel
theorem dX1_init_60 : decode cX1_init 60 = .ok (.putfield 40, 3) := by decide +kernel
theorem dX1_init_63 : decode cX1_init 63 = .ok (.aload_n 0, 1) := by decide +kernel
theorem dX1_init_64 : decode cX1_init 64 = .ok (.bipush 12, 2) := by decide +kernel
theorem dX1_init_66 : decode cX1_init 66 = .ok (.newarray .long, 2) := by decide +kernel
theorem dX1_init_68 : decode cX1_init 68 = .ok (.putfield 43, 3) := by decide +kernel
theorem dX1_init_71 : decode cX1_init 71 = .ok (.aload_n 0, 1) := by decide +kernel
theorem dX1_init_72 : decode cX1_init 72 = .ok (.iconst 0, 1) := by decide +kernel
theorem dX1_init_73 : decode cX1_init 73 = .ok (.putfield 47, 3) := by decide +kernel
theorem dX1_init_76 : decode cX1_init 76 = .ok (.return_, 1) := by decide +kernel
theorem dX1_hasJoined_0 : decode cX1_hasJoined 0 = .ok (.aload_n 0, 1) := by decide +kernel
theorem dX1_hasJoined_1 : decode cX1_hasJoined 1 = .ok (.getfield 9, 3) := by decide +kernel
theorem dX1_hasJoined_4 : decode cX1_hasJoined 4 = .ok (.ireturn, 1) := by decide +kernel
theorem dX1_ownScreen_0 : decode cX1_ownScreen 0 = .ok (.aload_n 0, 1) := by decide +kernel
theorem dX1_ownScreen_1 : decode cX1_ownScreen 1 = .ok (.getfield 18, 3) := by decide +kernel
theorem dX1_ownScreen_4 : decode cX1_ownScreen 4 = .ok (.areturn, 1) := by decide +kernel
theorem dX1_ownCache_0 : decode cX1_ownCache 0 = .ok (.aload_n 0, 1) := by decide +kernel
theorem dX1_ownCache_1 : decode cX1_ownCache 1 = .ok (.getfield 25, 3) := by decide +kernel
theorem dX1_ownCache_4 : decode cX1_ownCache 4 = .ok (.areturn, 1) := by decide +kernel
theorem dX1_serverCache_0 : decode cX1_serverCache 0 = .ok (.aload_n 0, 1) := by decide +kernel
theorem dX1_serverCache_1 : decode cX1_serverCache 1 = .ok (.getfield 29, 3) := by decide +kernel
theorem dX1_serverCache_4 : decode cX1_serverCache 4 = .ok (.areturn, 1) := by decide +kernel
theorem dX1_dirtyCount_0 : decode cX1_dirtyCount 0 = .ok (.aload_n 0, 1) := by decide +kernel
theorem dX1_dirtyCount_1 : decode cX1_dirtyCount 1 = .ok (.getfield 36, 3) := by decide +kernel
theorem dX1_dirtyCount_4 : decode cX1_dirtyCount 4 = .ok (.ireturn, 1) := by decide +kernel
theorem dX1_dirtyTileAt_0 : decode cX1_dirtyTileAt 0 = .ok (.aload_n 0, 1) := by decide +kernel
theorem dX1_dirtyTileAt_1 : decode cX1_dirtyTileAt 1 = .ok (.getfield 32, 3) := by decide +kernel
theorem dX1_dirtyTileAt_4 : decode cX1_dirtyTileAt 4 = .ok (.iload_n 1, 1) := by decide +kernel
theorem dX1_dirtyTileAt_5 : decode cX1_dirtyTileAt 5 = .ok (.iaload, 1) := by decide +kernel
theorem dX1_dirtyTileAt_6 : decode cX1_dirtyTileAt 6 = .ok (.ireturn, 1) := by decide +kernel
theorem dX1_messageCount_0 : decode cX1_messageCount 0 = .ok (.aload_n 0, 1) := by decide +kernel
theorem dX1_messageCount_1 : decode cX1_messageCount 1 = .ok (.getfield 47, 3) := by decide +kernel
theorem dX1_messageCount_4 : decode cX1_messageCount 4 = .ok (.ireturn, 1) := by decide +kernel
theorem dX1_hasMessage_0 : decode cX1_hasMessage 0 = .ok (.aload_n 0, 1) := by decide +kernel
theorem dX1_hasMessage_1 : decode cX1_hasMessage 1 = .ok (.getfield 47, 3) := by decide +kernel
theorem dX1_hasMessage_4 : decode cX1_hasMessage 4 = .ok (.ifCond .le 7, 3) := by decide +kernel
theorem dX1_hasMessage_7 : decode cX1_hasMessage 7 = .ok (.iconst 1, 1) := by decide +kernel
theorem dX1_hasMessage_8 : decode cX1_hasMessage 8 = .ok (.goto 4, 3) := by decide +kernel
theorem dX1_hasMessage_11 : decode cX1_hasMessage 11 = .ok (.iconst 0, 1) := by decide +kernel
theorem dX1_hasMessage_12 : decode cX1_hasMessage 12 = .ok (.ireturn, 1) := by decide +kernel
set_option maxRecDepth 20000 in
theorem ggX1_beginAnew_X2_clear : GoodIn wsX1_beginAnew wsX2_clear := goodIn_r _ [12, 13, 29] (by decide +kernel) (by decide +kernel)
set_option maxRecDepth 20000 in
theorem gX1_beginAnew_X2_clear : GoodIn wsX1_beginAnew (wsV RX1 50 RX2 yX2_clear wsX2_clear) := goodIn_app (goodIn_of _ (by decide +kernel)) ggX1_beginAnew_X2_clear
set_option maxRecDepth 20000 in
theorem ggX1_beginAnew_X0_clear : GoodIn wsX1_beginAnew wsX0_clear := goodIn_r _ [18, 19, 30, 31] (by decide +kernel) (by decide +kernel)
set_option maxRecDepth 20000 in
theorem gX1_beginAnew_X0_clear : GoodIn wsX1_beginAnew (wsV RX1 53 RX0 yX0_clear wsX0_clear) := goodIn_app (goodIn_of _ (by decide +kernel)) ggX1_beginAnew_X0_clear
theorem dX1_beginAnew_0 : decode cX1_beginAnew 0 = .ok (.aload_n 0, 1) := by decide +kernel
theorem dX1_beginAnew_1 : decode cX1_beginAnew 1 = .ok (.iconst 1, 1) := by decide +kernel
theorem dX1_beginAnew_2 : decode cX1_beginAnew 2 = .ok (.putfield 9, 3) := by decide +kernel
theorem dX1_beginAnew_5 : decode cX1_beginAnew 5 = .ok (.aload_n 0, 1) := by decide +kernel
theorem dX1_beginAnew_6 : decode cX1_beginAnew 6 = .ok (.getfield 18, 3) := by decide +kernel
theorem dX1_beginAnew_9 : decode cX1_beginAnew 9 = .ok (.invokevirtual 50, 3) := by decide +kernel
theorem dX1_beginAnew_12 : decode cX1_beginAnew 12 = .ok (.aload_n 0, 1) := by decide +kernel
theorem dX1_beginAnew_13 : decode cX1_beginAnew 13 = .ok (.getfield 25, 3) := by decide +kernel
theorem dX1_beginAnew_16 : decode cX1_beginAnew 16 = .ok (.invokevirtual 53, 3) := by decide +kernel
theorem dX1_beginAnew_19 : decode cX1_beginAnew 19 = .ok (.aload_n 0, 1) := by decide +kernel
theorem dX1_beginAnew_20 : decode cX1_beginAnew 20 = .ok (.getfield 29, 3) := by decide +kernel
theorem dX1_beginAnew_23 : decode cX1_beginAnew 23 = .ok (.invokevirtual 53, 3) := by decide +kernel
theorem dX1_beginAnew_26 : decode cX1_beginAnew 26 = .ok (.aload_n 0, 1) := by decide +kernel
theorem dX1_beginAnew_27 : decode cX1_beginAnew 27 = .ok (.iconst 0, 1) := by decide +kernel
theorem dX1_beginAnew_28 : decode cX1_beginAnew 28 = .ok (.putfield 47, 3) := by decide +kernel
theorem dX1_beginAnew_31 : decode cX1_beginAnew 31 = .ok (.iconst 0, 1) := by decide +kernel
theorem dX1_beginAnew_32 : decode cX1_beginAnew 32 = .ok (.istore_n 1, 1) := by decide +kernel
theorem dX1_beginAnew_33 : decode cX1_beginAnew 33 = .ok (.iload_n 1, 1) := by decide +kernel
theorem dX1_beginAnew_34 : decode cX1_beginAnew 34 = .ok (.bipush 12, 2) := by decide +kernel
theorem dX1_beginAnew_36 : decode cX1_beginAnew 36 = .ok (.if_icmp .ge 16, 3) := by decide +kernel
theorem dX1_beginAnew_39 : decode cX1_beginAnew 39 = .ok (.aload_n 0, 1) := by decide +kernel
theorem dX1_beginAnew_40 : decode cX1_beginAnew 40 = .ok (.getfield 32, 3) := by decide +kernel
theorem dX1_beginAnew_43 : decode cX1_beginAnew 43 = .ok (.iload_n 1, 1) := by decide +kernel
theorem dX1_beginAnew_44 : decode cX1_beginAnew 44 = .ok (.iload_n 1, 1) := by decide +kernel
theorem dX1_beginAnew_45 : decode cX1_beginAnew 45 = .ok (.iastore, 1) := by decide +kernel
theorem dX1_beginAnew_46 : decode cX1_beginAnew 46 = .ok (.iinc 1 1, 3) := by decide +kernel
theorem dX1_beginAnew_49 : decode cX1_beginAnew 49 = .ok (.goto (-16), 3) := by decide +kernel
theorem dX1_beginAnew_52 : decode cX1_beginAnew 52 = .ok (.aload_n 0, 1) := by decide +kernel
theorem dX1_beginAnew_53 : decode cX1_beginAnew 53 = .ok (.bipush 12, 2) := by decide +kernel
theorem dX1_beginAnew_55 : decode cX1_beginAnew 55 = .ok (.putfield 36, 3) := by decide +kernel
theorem dX1_beginAnew_58 : decode cX1_beginAnew 58 = .ok (.return_, 1) := by decide +kernel
theorem dX1_makeDirty_0 : decode cX1_makeDirty 0 = .ok (.iconst 0, 1) := by decide +kernel
theorem dX1_makeDirty_1 : decode cX1_makeDirty 1 = .ok (.istore_n 2, 1) := by decide +kernel
theorem dX1_makeDirty_2 : decode cX1_makeDirty 2 = .ok (.iload_n 2, 1) := by decide +kernel
theorem dX1_makeDirty_3 : decode cX1_makeDirty 3 = .ok (.aload_n 0, 1) := by decide +kernel
theorem dX1_makeDirty_4 : decode cX1_makeDirty 4 = .ok (.getfield 36, 3) := by decide +kernel
theorem dX1_makeDirty_7 : decode cX1_makeDirty 7 = .ok (.if_icmp .ge 20, 3) := by decide +kernel
theorem dX1_makeDirty_10 : decode cX1_makeDirty 10 = .ok (.aload_n 0, 1) := by decide +kernel
theorem dX1_makeDirty_11 : decode cX1_makeDirty 11 = .ok (.getfield 32, 3) := by decide +kernel
theorem dX1_makeDirty_14 : decode cX1_makeDirty 14 = .ok (.iload_n 2, 1) := by decide +kernel
theorem dX1_makeDirty_15 : decode cX1_makeDirty 15 = .ok (.iaload, 1) := by decide +kernel
theorem dX1_makeDirty_16 : decode cX1_makeDirty 16 = .ok (.iload_n 1, 1) := by decide +kernel
theorem dX1_makeDirty_17 : decode cX1_makeDirty 17 = .ok (.if_icmp .ne 4, 3) := by decide +kernel
theorem dX1_makeDirty_20 : decode cX1_makeDirty 20 = .ok (.return_, 1) := by decide +kernel
theorem dX1_makeDirty_21 : decode cX1_makeDirty 21 = .ok (.iinc 2 1, 3) := by decide +kernel
theorem dX1_makeDirty_24 : decode cX1_makeDirty 24 = .ok (.goto (-22), 3) := by decide +kernel
theorem dX1_makeDirty_27 : decode cX1_makeDirty 27 = .ok (.aload_n 0, 1) := by decide +kernel
theorem dX1_makeDirty_28 : decode cX1_makeDirty 28 = .ok (.getfield 36, 3) := by decide +kernel
theorem dX1_makeDirty_31 : decode cX1_makeDirty 31 = .ok (.bipush 12, 2) := by decide +kernel
theorem dX1_makeDirty_33 : decode cX1_makeDirty 33 = .ok (.if_icmp .ge 23, 3) := by decide +kernel
theorem dX1_makeDirty_36 : decode cX1_makeDirty 36 = .ok (.aload_n 0, 1) := by decide +kernel
theorem dX1_makeDirty_37 : decode cX1_makeDirty 37 = .ok (.getfield 32, 3) := by decide +kernel
theorem dX1_makeDirty_40 : decode cX1_makeDirty 40 = .ok (.aload_n 0, 1) := by decide +kernel
theorem dX1_makeDirty_41 : decode cX1_makeDirty 41 = .ok (.getfield 36, 3) := by decide +kernel
theorem dX1_makeDirty_44 : decode cX1_makeDirty 44 = .ok (.iload_n 1, 1) := by decide +kernel
theorem dX1_makeDirty_45 : decode cX1_makeDirty 45 = .ok (.iastore, 1) := by decide +kernel
theorem dX1_makeDirty_46 : decode cX1_makeDirty 46 = .ok (.aload_n 0, 1) := by decide +kernel
theorem dX1_makeDirty_47 : decode cX1_makeDirty 47 = .ok (.dup, 1) := by decide +kernel
theorem dX1_makeDirty_48 : decode cX1_makeDirty 48 = .ok (.getfield 36, 3) := by decide +kernel
theorem dX1_makeDirty_51 : decode cX1_makeDirty 51 = .ok (.iconst 1, 1) := by decide +kernel
theorem dX1_makeDirty_52 : decode cX1_makeDirty 52 = .ok (.iadd, 1) := by decide +kernel
theorem dX1_makeDirty_53 : decode cX1_makeDirty 53 = .ok (.putfield 36, 3) := by decide +kernel
theorem dX1_makeDirty_56 : decode cX1_makeDirty 56 = .ok (.return_, 1) := by decide +kernel
set_option maxRecDepth 20000 in
theorem ggX1_addToMessage_X0_bringToFront : GoodIn wsX1_addToMessage wsX0_bringToFront := goodIn_r _ [9, 10, 11, 12, 13, 14, 15, 16, 17, 18, 8, 19, 29, 30] (by decide +kernel) (by decide +kernel)
set_option maxRecDepth 20000 in
theorem gX1_addToMessage_X0_bringToFront : GoodIn wsX1_addToMessage (wsV RX1 54 RX0 yX0_bringToFront wsX0_bringToFront) := goodIn_app (goodIn_of _ (by decide +kernel)) ggX1_addToMessage_X0_bringToFront
theorem dX1_addToMessage_0 : decode cX1_addToMessage 0 = .ok (.aload_n 0, 1) := by decide +kernel
theorem dX1_addToMessage_1 : decode cX1_addToMessage 1 = .ok (.getfield 47, 3) := by decide +kernel
theorem dX1_addToMessage_4 : decode cX1_addToMessage 4 = .ok (.bipush 12, 2) := by decide +kernel
theorem dX1_addToMessage_6 : decode cX1_addToMessage 6 = .ok (.if_icmp .ge 33, 3) := by decide +kernel
theorem dX1_addToMessage_9 : decode cX1_addToMessage 9 = .ok (.aload_n 0, 1) := by decide +kernel
theorem dX1_addToMessage_10 : decode cX1_addToMessage 10 = .ok (.getfield 40, 3) := by decide +kernel
theorem dX1_addToMessage_13 : decode cX1_addToMessage 13 = .ok (.aload_n 0, 1) := by decide +kernel
theorem dX1_addToMessage_14 : decode cX1_addToMessage 14 = .ok (.getfield 47, 3) := by decide +kernel
theorem dX1_addToMessage_17 : decode cX1_addToMessage 17 = .ok (.iload_n 1, 1) := by decide +kernel
theorem dX1_addToMessage_18 : decode cX1_addToMessage 18 = .ok (.iastore, 1) := by decide +kernel
theorem dX1_addToMessage_19 : decode cX1_addToMessage 19 = .ok (.aload_n 0, 1) := by decide +kernel
theorem dX1_addToMessage_20 : decode cX1_addToMessage 20 = .ok (.getfield 43, 3) := by decide +kernel
theorem dX1_addToMessage_23 : decode cX1_addToMessage 23 = .ok (.aload_n 0, 1) := by decide +kernel
theorem dX1_addToMessage_24 : decode cX1_addToMessage 24 = .ok (.getfield 47, 3) := by decide +kernel
theorem dX1_addToMessage_27 : decode cX1_addToMessage 27 = .ok (.lload_n 2, 1) := by decide +kernel
theorem dX1_addToMessage_28 : decode cX1_addToMessage 28 = .ok (.lastore, 1) := by decide +kernel
theorem dX1_addToMessage_29 : decode cX1_addToMessage 29 = .ok (.aload_n 0, 1) := by decide +kernel
theorem dX1_addToMessage_30 : decode cX1_addToMessage 30 = .ok (.dup, 1) := by decide +kernel
theorem dX1_addToMessage_31 : decode cX1_addToMessage 31 = .ok (.getfield 47, 3) := by decide +kernel
theorem dX1_addToMessage_34 : decode cX1_addToMessage 34 = .ok (.iconst 1, 1) := by decide +kernel
theorem dX1_addToMessage_35 : decode cX1_addToMessage 35 = .ok (.iadd, 1) := by decide +kernel
theorem dX1_addToMessage_36 : decode cX1_addToMessage 36 = .ok (.putfield 47, 3) := by decide +kernel
theorem dX1_addToMessage_39 : decode cX1_addToMessage 39 = .ok (.aload_n 0, 1) := by decide +kernel
theorem dX1_addToMessage_40 : decode cX1_addToMessage 40 = .ok (.getfield 29, 3) := by decide +kernel
theorem dX1_addToMessage_43 : decode cX1_addToMessage 43 = .ok (.lload_n 2, 1) := by decide +kernel
theorem dX1_addToMessage_44 : decode cX1_addToMessage 44 = .ok (.invokevirtual 54, 3) := by decide +kernel
theorem dX1_addToMessage_47 : decode cX1_addToMessage 47 = .ok (.return_, 1) := by decide +kernel
theorem dX1_cleanTilesOfMessage_0 : decode cX1_cleanTilesOfMessage 0 = .ok (.aload_n 0, 1) := by decide +kernel
theorem dX1_cleanTilesOfMessage_1 : decode cX1_cleanTilesOfMessage 1 = .ok (.getfield 47, 3) := by decide +kernel
theorem dX1_cleanTilesOfMessage_4 : decode cX1_cleanTilesOfMessage 4 = .ok (.istore_n 1, 1) := by decide +kernel
theorem dX1_cleanTilesOfMessage_5 : decode cX1_cleanTilesOfMessage 5 = .ok (.iload_n 1, 1) := by decide +kernel
theorem dX1_cleanTilesOfMessage_6 : decode cX1_cleanTilesOfMessage 6 = .ok (.aload_n 0, 1) := by decide +kernel
theorem dX1_cleanTilesOfMessage_7 : decode cX1_cleanTilesOfMessage 7 = .ok (.getfield 36, 3) := by decide +kernel
theorem dX1_cleanTilesOfMessage_10 : decode cX1_cleanTilesOfMessage 10 = .ok (.if_icmp .ge 26, 3) := by decide +kernel
theorem dX1_cleanTilesOfMessage_13 : decode cX1_cleanTilesOfMessage 13 = .ok (.aload_n 0, 1) := by decide +kernel
theorem dX1_cleanTilesOfMessage_14 : decode cX1_cleanTilesOfMessage 14 = .ok (.getfield 32, 3) := by decide +kernel
theorem dX1_cleanTilesOfMessage_17 : decode cX1_cleanTilesOfMessage 17 = .ok (.iload_n 1, 1) := by decide +kernel
theorem dX1_cleanTilesOfMessage_18 : decode cX1_cleanTilesOfMessage 18 = .ok (.aload_n 0, 1) := by decide +kernel
theorem dX1_cleanTilesOfMessage_19 : decode cX1_cleanTilesOfMessage 19 = .ok (.getfield 47, 3) := by decide +kernel
theorem dX1_cleanTilesOfMessage_22 : decode cX1_cleanTilesOfMessage 22 = .ok (.isub, 1) := by decide +kernel
theorem dX1_cleanTilesOfMessage_23 : decode cX1_cleanTilesOfMessage 23 = .ok (.aload_n 0, 1) := by decide +kernel
theorem dX1_cleanTilesOfMessage_24 : decode cX1_cleanTilesOfMessage 24 = .ok (.getfield 32, 3) := by decide +kernel
theorem dX1_cleanTilesOfMessage_27 : decode cX1_cleanTilesOfMessage 27 = .ok (.iload_n 1, 1) := by decide +kernel
theorem dX1_cleanTilesOfMessage_28 : decode cX1_cleanTilesOfMessage 28 = .ok (.iaload, 1) := by decide +kernel
theorem dX1_cleanTilesOfMessage_29 : decode cX1_cleanTilesOfMessage 29 = .ok (.iastore, 1) := by decide +kernel
theorem dX1_cleanTilesOfMessage_30 : decode cX1_cleanTilesOfMessage 30 = .ok (.iinc 1 1, 3) := by decide +kernel
theorem dX1_cleanTilesOfMessage_33 : decode cX1_cleanTilesOfMessage 33 = .ok (.goto (-28), 3) := by decide +kernel
theorem dX1_cleanTilesOfMessage_36 : decode cX1_cleanTilesOfMessage 36 = .ok (.aload_n 0, 1) := by decide +kernel
theorem dX1_cleanTilesOfMessage_37 : decode cX1_cleanTilesOfMessage 37 = .ok (.dup, 1) := by decide +kernel
theorem dX1_cleanTilesOfMessage_38 : decode cX1_cleanTilesOfMessage 38 = .ok (.getfield 36, 3) := by decide +kernel
theorem dX1_cleanTilesOfMessage_41 : decode cX1_cleanTilesOfMessage 41 = .ok (.aload_n 0, 1) := by decide +kernel
theorem dX1_cleanTilesOfMessage_42 : decode cX1_cleanTilesOfMessage 42 = .ok (.getfield 47, 3) := by decide +kernel
theorem dX1_cleanTilesOfMessage_45 : decode cX1_cleanTilesOfMessage 45 = .ok (.isub, 1) := by decide +kernel
theorem dX1_cleanTilesOfMessage_46 : decode cX1_cleanTilesOfMessage 46 = .ok (.putfield 36, 3) := by decide +kernel
theorem dX1_cleanTilesOfMessage_49 : decode cX1_cleanTilesOfMessage 49 = .ok (.return_, 1) := by decide +kernel
set_option maxRecDepth 20000 in
theorem ggX1_takeMessage_X2_replaceTile : GoodIn wsX1_takeMessage wsX2_replaceTile := goodIn_r _ [10, 11, 36] (by decide +kernel) (by decide +kernel)
set_option maxRecDepth 20000 in
theorem gX1_takeMessage_X2_replaceTile : GoodIn wsX1_takeMessage (wsV RX1 58 RX2 yX2_replaceTile wsX2_replaceTile) := goodIn_app (goodIn_of _ (by decide +kernel)) ggX1_takeMessage_X2_replaceTile
set_option maxRecDepth 20000 in
theorem ggX1_takeMessage_X0_bringToFront : GoodIn wsX1_takeMessage wsX0_bringToFront := goodIn_r _ [16, 17, 18, 19, 20, 21, 22, 23, 24, 25, 15, 26, 37, 38] (by decide +kernel) (by decide +kernel)
set_option maxRecDepth 20000 in
theorem gX1_takeMessage_X0_bringToFront : GoodIn wsX1_takeMessage (wsV RX1 54 RX0 yX0_bringToFront wsX0_bringToFront) := goodIn_app (goodIn_of _ (by decide +kernel)) ggX1_takeMessage_X0_bringToFront
theorem dX1_takeMessage_0 : decode cX1_takeMessage 0 = .ok (.aload_n 0, 1) := by decide +kernel
theorem dX1_takeMessage_1 : decode cX1_takeMessage 1 = .ok (.getfield 47, 3) := by decide +kernel
theorem dX1_takeMessage_4 : decode cX1_takeMessage 4 = .ok (.istore_n 1, 1) := by decide +kernel
theorem dX1_takeMessage_5 : decode cX1_takeMessage 5 = .ok (.iconst 0, 1) := by decide +kernel
theorem dX1_takeMessage_6 : decode cX1_takeMessage 6 = .ok (.istore_n 2, 1) := by decide +kernel
theorem dX1_takeMessage_7 : decode cX1_takeMessage 7 = .ok (.iload_n 2, 1) := by decide +kernel
theorem dX1_takeMessage_8 : decode cX1_takeMessage 8 = .ok (.iload_n 1, 1) := by decide +kernel
theorem dX1_takeMessage_9 : decode cX1_takeMessage 9 = .ok (.if_icmp .ge 41, 3) := by decide +kernel
theorem dX1_takeMessage_12 : decode cX1_takeMessage 12 = .ok (.aload_n 0, 1) := by decide +kernel
theorem dX1_takeMessage_13 : decode cX1_takeMessage 13 = .ok (.getfield 18, 3) := by decide +kernel
theorem dX1_takeMessage_16 : decode cX1_takeMessage 16 = .ok (.aload_n 0, 1) := by decide +kernel
theorem dX1_takeMessage_17 : decode cX1_takeMessage 17 = .ok (.getfield 40, 3) := by decide +kernel
theorem dX1_takeMessage_20 : decode cX1_takeMessage 20 = .ok (.iload_n 2, 1) := by decide +kernel
theorem dX1_takeMessage_21 : decode cX1_takeMessage 21 = .ok (.iaload, 1) := by decide +kernel
theorem dX1_takeMessage_22 : decode cX1_takeMessage 22 = .ok (.aload_n 0, 1) := by decide +kernel
theorem dX1_takeMessage_23 : decode cX1_takeMessage 23 = .ok (.getfield 43, 3) := by decide +kernel
theorem dX1_takeMessage_26 : decode cX1_takeMessage 26 = .ok (.iload_n 2, 1) := by decide +kernel
theorem dX1_takeMessage_27 : decode cX1_takeMessage 27 = .ok (.laload, 1) := by decide +kernel
theorem dX1_takeMessage_28 : decode cX1_takeMessage 28 = .ok (.invokevirtual 58, 3) := by decide +kernel
theorem dX1_takeMessage_31 : decode cX1_takeMessage 31 = .ok (.aload_n 0, 1) := by decide +kernel
theorem dX1_takeMessage_32 : decode cX1_takeMessage 32 = .ok (.getfield 25, 3) := by decide +kernel
theorem dX1_takeMessage_35 : decode cX1_takeMessage 35 = .ok (.aload_n 0, 1) := by decide +kernel
theorem dX1_takeMessage_36 : decode cX1_takeMessage 36 = .ok (.getfield 43, 3) := by decide +kernel
theorem dX1_takeMessage_39 : decode cX1_takeMessage 39 = .ok (.iload_n 2, 1) := by decide +kernel
theorem dX1_takeMessage_40 : decode cX1_takeMessage 40 = .ok (.laload, 1) := by decide +kernel
theorem dX1_takeMessage_41 : decode cX1_takeMessage 41 = .ok (.invokevirtual 54, 3) := by decide +kernel
theorem dX1_takeMessage_44 : decode cX1_takeMessage 44 = .ok (.iinc 2 1, 3) := by decide +kernel
theorem dX1_takeMessage_47 : decode cX1_takeMessage 47 = .ok (.goto (-40), 3) := by decide +kernel
theorem dX1_takeMessage_50 : decode cX1_takeMessage 50 = .ok (.aload_n 0, 1) := by decide +kernel
theorem dX1_takeMessage_51 : decode cX1_takeMessage 51 = .ok (.iconst 0, 1) := by decide +kernel
theorem dX1_takeMessage_52 : decode cX1_takeMessage 52 = .ok (.putfield 47, 3) := by decide +kernel
theorem dX1_takeMessage_55 : decode cX1_takeMessage 55 = .ok (.iload_n 1, 1) := by decide +kernel
theorem dX1_takeMessage_56 : decode cX1_takeMessage 56 = .ok (.ireturn, 1) := by decide +kernel
theorem dX2_init_0 : decode cX2_init 0 = .ok (.aload_n 0, 1) := by decide +kernel
theorem dX2_init_1 : decode cX2_init 1 = .ok (.invokespecial 3, 3) := by decide +kernel
theorem dX2_init_4 : decode cX2_init 4 = .ok (.aload_n 0, 1) := by decide +kernel
theorem dX2_init_5 : decode cX2_init 5 = .ok (.bipush 12, 2) := by decide +kernel
theorem dX2_init_7 : decode cX2_init 7 = .ok (.newarray .long, 2) := by decide +kernel
theorem dX2_init_9 : decode cX2_init 9 = .ok (.putfield 9, 3) := by decide +kernel
theorem dX2_init_12 : decode cX2_init 12 = .ok (.return_, 1) := by decide +kernel
theorem dX2_cellsOf_0 : decode cX2_cellsOf 0 = .ok (.aload_n 0, 1) := by decide +kernel
theorem dX2_cellsOf_1 : decode cX2_cellsOf 1 = .ok (.getfield 9, 3) := by decide +kernel
theorem dX2_cellsOf_4 : decode cX2_cellsOf 4 = .ok (.iload_n 1, 1) := by decide +kernel
theorem dX2_cellsOf_5 : decode cX2_cellsOf 5 = .ok (.laload, 1) := by decide +kernel
theorem dX2_cellsOf_6 : decode cX2_cellsOf 6 = .ok (.lreturn, 1) := by decide +kernel
theorem dX2_replaceTile_0 : decode cX2_replaceTile 0 = .ok (.aload_n 0, 1) := by decide +kernel
theorem dX2_replaceTile_1 : decode cX2_replaceTile 1 = .ok (.getfield 9, 3) := by decide +kernel
theorem dX2_replaceTile_4 : decode cX2_replaceTile 4 = .ok (.iload_n 1, 1) := by decide +kernel
theorem dX2_replaceTile_5 : decode cX2_replaceTile 5 = .ok (.lload_n 2, 1) := by decide +kernel
theorem dX2_replaceTile_6 : decode cX2_replaceTile 6 = .ok (.lastore, 1) := by decide +kernel
theorem dX2_replaceTile_7 : decode cX2_replaceTile 7 = .ok (.return_, 1) := by decide +kernel
set_option maxRecDepth 20000 in
theorem ggX2_colourAt_X2_tileOf : GoodIn wsX2_colourAt wsX2_tileOf := goodIn_r _ [5] (by decide +kernel) (by decide +kernel)
set_option maxRecDepth 20000 in
theorem gX2_colourAt_X2_tileOf : GoodIn wsX2_colourAt (va_wsS RX2 15 yX2_tileOf wsX2_tileOf) := goodIn_app (goodIn_of _ (by decide +kernel)) ggX2_colourAt_X2_tileOf
set_option maxRecDepth 20000 in
theorem ggX2_colourAt_X2_placeInTile : GoodIn wsX2_colourAt wsX2_placeInTile := goodIn_r _ [8] (by decide +kernel) (by decide +kernel)
set_option maxRecDepth 20000 in
theorem gX2_colourAt_X2_placeInTile : GoodIn wsX2_colourAt (va_wsS RX2 19 yX2_placeInTile wsX2_placeInTile) := goodIn_app (goodIn_of _ (by decide +kernel)) ggX2_colourAt_X2_placeInTile
set_option maxRecDepth 20000 in
theorem ggX2_colourAt_X3_cellAt : GoodIn wsX2_colourAt wsX3_cellAt := goodIn_r _ [11, 12] (by decide +kernel) (by decide +kernel)
set_option maxRecDepth 20000 in
theorem gX2_colourAt_X3_cellAt_n22 : GoodIn wsX2_colourAt (wsX3_cellAt) := ggX2_colourAt_X3_cellAt
theorem dX2_colourAt_0 : decode cX2_colourAt 0 = .ok (.aload_n 0, 1) := by decide +kernel
theorem dX2_colourAt_1 : decode cX2_colourAt 1 = .ok (.getfield 9, 3) := by decide +kernel
theorem dX2_colourAt_4 : decode cX2_colourAt 4 = .ok (.iload_n 1, 1) := by decide +kernel
theorem dX2_colourAt_5 : decode cX2_colourAt 5 = .ok (.iload_n 2, 1) := by decide +kernel
theorem dX2_colourAt_6 : decode cX2_colourAt 6 = .ok (.invokestatic 15, 3) := by decide +kernel
theorem dX2_colourAt_9 : decode cX2_colourAt 9 = .ok (.laload, 1) := by decide +kernel
theorem dX2_colourAt_10 : decode cX2_colourAt 10 = .ok (.iload_n 1, 1) := by decide +kernel
theorem dX2_colourAt_11 : decode cX2_colourAt 11 = .ok (.iload_n 2, 1) := by decide +kernel
theorem dX2_colourAt_12 : decode cX2_colourAt 12 = .ok (.invokestatic 19, 3) := by decide +kernel
theorem dX2_colourAt_15 : decode cX2_colourAt 15 = .ok (.invokestatic 22, 3) := by decide +kernel
theorem dX2_colourAt_18 : decode cX2_colourAt 18 = .ok (.ireturn, 1) := by decide +kernel
set_option maxRecDepth 20000 in
theorem ggX2_paint_X2_tileOf : GoodIn wsX2_paint wsX2_tileOf := goodIn_r _ [7] (by decide +kernel) (by decide +kernel)
set_option maxRecDepth 20000 in
theorem gX2_paint_X2_tileOf : GoodIn wsX2_paint (va_wsS RX2 15 yX2_tileOf wsX2_tileOf) := goodIn_app (goodIn_of _ (by decide +kernel)) ggX2_paint_X2_tileOf
set_option maxRecDepth 20000 in
theorem ggX2_paint_X2_placeInTile : GoodIn wsX2_paint wsX2_placeInTile := goodIn_r _ [10] (by decide +kernel) (by decide +kernel)
set_option maxRecDepth 20000 in
theorem gX2_paint_X2_placeInTile : GoodIn wsX2_paint (va_wsS RX2 19 yX2_placeInTile wsX2_placeInTile) := goodIn_app (goodIn_of _ (by decide +kernel)) ggX2_paint_X2_placeInTile
theorem dX2_paint_0 : decode cX2_paint 0 = .ok (.iload_n 1, 1) := by decide +kernel
theorem dX2_paint_1 : decode cX2_paint 1 = .ok (.iload_n 2, 1) := by decide +kernel
theorem dX2_paint_2 : decode cX2_paint 2 = .ok (.invokestatic 15, 3) := by decide +kernel
theorem dX2_paint_5 : decode cX2_paint 5 = .ok (.istore 4, 2) := by decide +kernel
theorem dX2_paint_7 : decode cX2_paint 7 = .ok (.iconst 4, 1) := by decide +kernel
theorem dX2_paint_8 : decode cX2_paint 8 = .ok (.iload_n 1, 1) := by decide +kernel
theorem dX2_paint_9 : decode cX2_paint 9 = .ok (.iload_n 2, 1) := by decide +kernel
theorem dX2_paint_10 : decode cX2_paint 10 = .ok (.invokestatic 19, 3) := by decide +kernel
theorem dX2_paint_13 : decode cX2_paint 13 = .ok (.imul, 1) := by decide +kernel
theorem dX2_paint_14 : decode cX2_paint 14 = .ok (.istore 5, 2) := by decide +kernel
theorem dX2_paint_16 : decode cX2_paint 16 = .ok (.aload_n 0, 1) := by decide +kernel
theorem dX2_paint_17 : decode cX2_paint 17 = .ok (.getfield 9, 3) := by decide +kernel
theorem dX2_paint_20 : decode cX2_paint 20 = .ok (.iload 4, 2) := by decide +kernel
theorem dX2_paint_22 : decode cX2_paint 22 = .ok (.aload_n 0, 1) := by decide +kernel
theorem dX2_paint_23 : decode cX2_paint 23 = .ok (.getfield 9, 3) := by decide +kernel
theorem dX2_paint_26 : decode cX2_paint 26 = .ok (.iload 4, 2) := by decide +kernel
theorem dX2_paint_28 : decode cX2_paint 28 = .ok (.laload, 1) := by decide +kernel
theorem dX2_paint_29 : decode cX2_paint 29 = .ok (.ldc2_w 26, 3) := by decide +kernel
theorem dX2_paint_32 : decode cX2_paint 32 = .ok (.iload 5, 2) := by decide +kernel
theorem dX2_paint_34 : decode cX2_paint 34 = .ok (.lshl, 1) := by decide +kernel
theorem dX2_paint_35 : decode cX2_paint 35 = .ok (.ldc2_w 28, 3) := by decide +kernel
theorem dX2_paint_38 : decode cX2_paint 38 = .ok (.lxor, 1) := by decide +kernel
theorem dX2_paint_39 : decode cX2_paint 39 = .ok (.land, 1) := by decide +kernel
theorem dX2_paint_40 : decode cX2_paint 40 = .ok (.iload_n 3, 1) := by decide +kernel
theorem dX2_paint_41 : decode cX2_paint 41 = .ok (.i2l, 1) := by decide +kernel
theorem dX2_paint_42 : decode cX2_paint 42 = .ok (.iload 5, 2) := by decide +kernel
theorem dX2_paint_44 : decode cX2_paint 44 = .ok (.lshl, 1) := by decide +kernel
theorem dX2_paint_45 : decode cX2_paint 45 = .ok (.lor, 1) := by decide +kernel
theorem dX2_paint_46 : decode cX2_paint 46 = .ok (.lastore, 1) := by decide +kernel
theorem dX2_paint_47 : decode cX2_paint 47 = .ok (.return_, 1) := by decide +kernel
theorem dX2_become_0 : decode cX2_become 0 = .ok (.iconst 0, 1) := by decide +kernel
theorem dX2_become_1 : decode cX2_become 1 = .ok (.istore_n 2, 1) := by decide +kernel
theorem dX2_become_2 : decode cX2_become 2 = .ok (.iload_n 2, 1) := by decide +kernel
theorem dX2_become_3 : decode cX2_become 3 = .ok (.bipush 12, 2) := by decide +kernel
theorem dX2_become_5 : decode cX2_become 5 = .ok (.if_icmp .ge 21, 3) := by decide +kernel
theorem dX2_become_8 : decode cX2_become 8 = .ok (.aload_n 0, 1) := by decide +kernel
theorem dX2_become_9 : decode cX2_become 9 = .ok (.getfield 9, 3) := by decide +kernel
theorem dX2_become_12 : decode cX2_become 12 = .ok (.iload_n 2, 1) := by decide +kernel
theorem dX2_become_13 : decode cX2_become 13 = .ok (.aload_n 1, 1) := by decide +kernel
theorem dX2_become_14 : decode cX2_become 14 = .ok (.getfield 9, 3) := by decide +kernel
theorem dX2_become_17 : decode cX2_become 17 = .ok (.iload_n 2, 1) := by decide +kernel
theorem dX2_become_18 : decode cX2_become 18 = .ok (.laload, 1) := by decide +kernel
theorem dX2_become_19 : decode cX2_become 19 = .ok (.lastore, 1) := by decide +kernel
theorem dX2_become_20 : decode cX2_become 20 = .ok (.iinc 2 1, 3) := by decide +kernel
theorem dX2_become_23 : decode cX2_become 23 = .ok (.goto (-21), 3) := by decide +kernel
theorem dX2_become_26 : decode cX2_become 26 = .ok (.return_, 1) := by decide +kernel
theorem dX2_clear_0 : decode cX2_clear 0 = .ok (.iconst 0, 1) := by decide +kernel
theorem dX2_clear_1 : decode cX2_clear 1 = .ok (.istore_n 1, 1) := by decide +kernel
theorem dX2_clear_2 : decode cX2_clear 2 = .ok (.iload_n 1, 1) := by decide +kernel
theorem dX2_clear_3 : decode cX2_clear 3 = .ok (.bipush 12, 2) := by decide +kernel
theorem dX2_clear_5 : decode cX2_clear 5 = .ok (.if_icmp .ge 16, 3) := by decide +kernel
theorem dX2_clear_8 : decode cX2_clear 8 = .ok (.aload_n 0, 1) := by decide +kernel
theorem dX2_clear_9 : decode cX2_clear 9 = .ok (.getfield 9, 3) := by decide +kernel
theorem dX2_clear_12 : decode cX2_clear 12 = .ok (.iload_n 1, 1) := by decide +kernel
theorem dX2_clear_13 : decode cX2_clear 13 = .ok (.lconst 0, 1) := by decide +kernel
theorem dX2_clear_14 : decode cX2_clear 14 = .ok (.lastore, 1) := by decide +kernel
theorem dX2_clear_15 : decode cX2_clear 15 = .ok (.iinc 1 1, 3) := by decide +kernel
theorem dX2_clear_18 : decode cX2_clear 18 = .ok (.goto (-16), 3) := by decide +kernel
theorem dX2_clear_21 : decode cX2_clear 21 = .ok (.return_, 1) := by decide +kernel
theorem dX2_tileOf_0 : decode cX2_tileOf 0 = .ok (.iconst 4, 1) := by decide +kernel
theorem dX2_tileOf_1 : decode cX2_tileOf 1 = .ok (.iload_n 1, 1) := by decide +kernel
theorem dX2_tileOf_2 : decode cX2_tileOf 2 = .ok (.iconst 4, 1) := by decide +kernel
theorem dX2_tileOf_3 : decode cX2_tileOf 3 = .ok (.idiv, 1) := by decide +kernel
theorem dX2_tileOf_4 : decode cX2_tileOf 4 = .ok (.imul, 1) := by decide +kernel
theorem dX2_tileOf_5 : decode cX2_tileOf 5 = .ok (.iload_n 0, 1) := by decide +kernel
theorem dX2_tileOf_6 : decode cX2_tileOf 6 = .ok (.iconst 4, 1) := by decide +kernel
theorem dX2_tileOf_7 : decode cX2_tileOf 7 = .ok (.idiv, 1) := by decide +kernel
theorem dX2_tileOf_8 : decode cX2_tileOf 8 = .ok (.iadd, 1) := by decide +kernel
theorem dX2_tileOf_9 : decode cX2_tileOf 9 = .ok (.ireturn, 1) := by decide +kernel
theorem dX2_placeInTile_0 : decode cX2_placeInTile 0 = .ok (.iconst 4, 1) := by decide +kernel
theorem dX2_placeInTile_1 : decode cX2_placeInTile 1 = .ok (.iload_n 1, 1) := by decide +kernel
theorem dX2_placeInTile_2 : decode cX2_placeInTile 2 = .ok (.iconst 4, 1) := by decide +kernel
theorem dX2_placeInTile_3 : decode cX2_placeInTile 3 = .ok (.irem, 1) := by decide +kernel
theorem dX2_placeInTile_4 : decode cX2_placeInTile 4 = .ok (.imul, 1) := by decide +kernel
theorem dX2_placeInTile_5 : decode cX2_placeInTile 5 = .ok (.iload_n 0, 1) := by decide +kernel
theorem dX2_placeInTile_6 : decode cX2_placeInTile 6 = .ok (.iconst 4, 1) := by decide +kernel
theorem dX2_placeInTile_7 : decode cX2_placeInTile 7 = .ok (.irem, 1) := by decide +kernel
theorem dX2_placeInTile_8 : decode cX2_placeInTile 8 = .ok (.iadd, 1) := by decide +kernel
theorem dX2_placeInTile_9 : decode cX2_placeInTile 9 = .ok (.ireturn, 1) := by decide +kernel
set_option maxRecDepth 20000 in
theorem ggX3_init_X2_init : GoodIn wsX3_init wsX2_init := goodIn_r _ [17, 18, 2, 3, 19, 20, 42] (by decide +kernel) (by decide +kernel)
set_option maxRecDepth 20000 in
theorem gX3_init_X2_init_n9 : GoodIn wsX3_init (wsX2_init) := ggX3_init_X2_init
set_option maxRecDepth 20000 in
theorem ggX3_init_X1_init : GoodIn wsX3_init wsX1_init := goodIn_r _ [22, 23, 2, 3, 24, 25, 5, 6, 26, 27, 28, 29, 30, 31, 11, 32, 33, 34, 19, 35, 36, 16, 17, 18, 20, 37, 38, 39, 40, 41, 48, 49, 50, 51, 52, 53, 54, 55, 56, 42, 57, 58] (by decide +kernel) (by decide +kernel)
set_option maxRecDepth 20000 in
theorem gX3_init_X1_init_n33 : GoodIn wsX3_init (wsX1_init) := ggX3_init_X1_init
end
section
theorem dX3_init_0 : decode cX3_init 0 = .ok (.aload_n 0, 1) := by decide +kernel
theorem dX3_init_1 : decode cX3_init 1 = .ok (.invokespecial 1, 3) := by decide +kernel
theorem dX3_init_4 : decode cX3_init 4 = .ok (.aload_n 0, 1) := by decide +kernel
theorem dX3_init_5 : decode cX3_init 5 = .ok (.new 7, 3) := by decide +kernel
theorem dX3_init_8 : decode cX3_init 8 = .ok (.dup, 1) := by decide +kernel
theorem dX3_init_9 : decode cX3_init 9 = .ok (.invokespecial 9, 3) := by decide +kernel
theorem dX3_init_12 : decode cX3_init 12 = .ok (.putfield 10, 3) := by decide +kernel
theorem dX3_init_15 : decode cX3_init 15 = .ok (.aload_n 0, 1) := by decide +kernel
theorem dX3_init_16 : decode cX3_init 16 = .ok (.new 7, 3) := by decide +kernel
theorem dX3_init_19 : decode cX3_init 19 = .ok (.dup, 1) := by decide +kernel
theorem dX3_init_20 : decode cX3_init 20 = .ok (.invokespecial 9, 3) := by decide +kernel
theorem dX3_init_23 : decode cX3_init 23 = .ok (.putfield 16, 3) := by decide +kernel
theorem dX3_init_26 : decode cX3_init 26 = .ok (.aload_n 0, 1) := by decide +kernel
theorem dX3_init_27 : decode cX3_init 27 = .ok (.iconst 2, 1) := by decide +kernel
theorem dX3_init_28 : decode cX3_init 28 = .ok (.anewarray 19, 3) := by decide +kernel
theorem dX3_init_31 : decode cX3_init 31 = .ok (.putfield 21, 3) := by decide +kernel
theorem dX3_init_34 : decode cX3_init 34 = .ok (.aload_n 0, 1) := by decide +kernel
theorem dX3_init_35 : decode cX3_init 35 = .ok (.iconst 5, 1) := by decide +kernel
theorem dX3_init_36 : decode cX3_init 36 = .ok (.newarray .int, 2) := by decide +kernel
theorem dX3_init_38 : decode cX3_init 38 = .ok (.putfield 25, 3) := by decide +kernel
theorem dX3_init_41 : decode cX3_init 41 = .ok (.aload_n 0, 1) := by decide +kernel
theorem dX3_init_42 : decode cX3_init 42 = .ok (.iconst 0, 1) := by decide +kernel
theorem dX3_init_43 : decode cX3_init 43 = .ok (.putfield 29, 3) := by decide +kernel
theorem dX3_init_46 : decode cX3_init 46 = .ok (.iconst 0, 1) := by decide +kernel
theorem dX3_init_47 : decode cX3_init 47 = .ok (.istore_n 1, 1) := by decide +kernel
theorem dX3_init_48 : decode cX3_init 48 = .ok (.iload_n 1, 1) := by decide +kernel
theorem dX3_init_49 : decode cX3_init 49 = .ok (.aload_n 0, 1) := by decide +kernel
theorem dX3_init_50 : decode cX3_init 50 = .ok (.getfield 21, 3) := by decide +kernel
theorem dX3_init_53 : decode cX3_init 53 = .ok (.arraylength, 1) := by decide +kernel
theorem dX3_init_54 : decode cX3_init 54 = .ok (.if_icmp .ge 22, 3) := by decide +kernel
theorem dX3_init_57 : decode cX3_init 57 = .ok (.aload_n 0, 1) := by decide +kernel
theorem dX3_init_58 : decode cX3_init 58 = .ok (.getfield 21, 3) := by decide +kernel
theorem dX3_init_61 : decode cX3_init 61 = .ok (.iload_n 1, 1) := by decide +kernel
theorem dX3_init_62 : decode cX3_init 62 = .ok (.new 19, 3) := by decide +kernel
theorem dX3_init_65 : decode cX3_init 65 = .ok (.dup, 1) := by decide +kernel
theorem dX3_init_66 : decode cX3_init 66 = .ok (.invokespecial 33, 3) := by decide +kernel
theorem dX3_init_69 : decode cX3_init 69 = .ok (.aastore, 1) := by decide +kernel
theorem dX3_init_70 : decode cX3_init 70 = .ok (.iinc 1 1, 3) := by decide +kernel
theorem dX3_init_73 : decode cX3_init 73 = .ok (.goto (-25), 3) := by decide +kernel
theorem dX3_init_76 : decode cX3_init 76 = .ok (.return_, 1) := by decide +kernel
set_option maxRecDepth 20000 in
theorem ggX3_fill_X3_isBox : GoodIn wsX3_fill wsX3_isBox := goodIn_r _ [6, 7, 8, 5, 9, 10, 11, 12, 13, 14, 15] (by decide +kernel) (by decide +kernel)
set_option maxRecDepth 20000 in
theorem gX3_fill_X3_isBox : GoodIn wsX3_fill (va_wsS RX3 34 yX3_isBox wsX3_isBox) := goodIn_app (goodIn_of _ (by decide +kernel)) ggX3_fill_X3_isBox
set_option maxRecDepth 20000 in
theorem ggX3_fill_X3_requireArgument : GoodIn wsX3_fill wsX3_requireArgument := goodIn_ca (goodIn_r _ [18, 19, 20] (by decide +kernel) (by decide +kernel)) (goodIn_sub (fun _ h => List.mem_cons_of_mem _ (List.mem_append_right _ h)) (by decide +kernel))
set_option maxRecDepth 20000 in
theorem gX3_fill_X3_requireArgument : GoodIn wsX3_fill (va_wsS RX3 38 yX3_requireArgument wsX3_requireArgument) := goodIn_app (goodIn_of _ (by decide +kernel)) ggX3_fill_X3_requireArgument
set_option maxRecDepth 20000 in
theorem ggX3_fill_X3_isIndex : GoodIn wsX3_fill wsX3_isIndex := goodIn_r _ [12] (by decide +kernel) (by decide +kernel)
set_option maxRecDepth 20000 in
theorem gX3_fill_X3_isIndex : GoodIn wsX3_fill (va_wsS RX3 42 yX3_isIndex wsX3_isIndex) := goodIn_app (goodIn_of _ (by decide +kernel)) ggX3_fill_X3_isIndex
set_option maxRecDepth 20000 in
theorem ggX3_fill_X2_become : GoodIn wsX3_fill wsX2_become := goodIn_r _ [25, 26, 76] (by decide +kernel) (by decide +kernel)
set_option maxRecDepth 20000 in
theorem gX3_fill_X2_become : GoodIn wsX3_fill (wsV RX3 46 RX2 yX2_become wsX2_become) := goodIn_app (goodIn_of _ (by decide +kernel)) ggX3_fill_X2_become
set_option maxRecDepth 20000 in
theorem ggX3_fill_X2_paint : GoodIn wsX3_fill wsX2_paint := goodIn_r _ [30, 26, 31, 32, 33, 34, 24, 35, 36, 37, 38, 76] (by decide +kernel) (by decide +kernel)
set_option maxRecDepth 20000 in
theorem gX3_fill_X2_paint : GoodIn wsX3_fill (wsV RX3 50 RX2 yX2_paint wsX2_paint) := goodIn_app (goodIn_of _ (by decide +kernel)) ggX3_fill_X2_paint
set_option maxRecDepth 20000 in
theorem ggX3_fill_X3_noteChanges : GoodIn wsX3_fill wsX3_noteChanges := goodIn_r _ [42, 1, 2, 43, 44, 45, 24, 46, 26, 47, 48, 5, 49, 50, 51, 52, 53, 54, 55, 56, 57, 58, 59, 60, 61, 62, 63, 64, 65, 66, 67, 68, 69, 70, 71, 72, 73, 74, 75, 76, 77, 78, 79, 80, 81, 82, 83, 84, 85] (by decide +kernel) (by decide +kernel)
set_option maxRecDepth 20000 in
theorem gX3_fill_X3_noteChanges : GoodIn wsX3_fill (wsV RX3 54 RX3 yX3_noteChanges wsX3_noteChanges) := goodIn_app (goodIn_of _ (by decide +kernel)) ggX3_fill_X3_noteChanges
theorem dX3_fill_0 : decode cX3_fill 0 = .ok (.iload_n 1, 1) := by decide +kernel
theorem dX3_fill_1 : decode cX3_fill 1 = .ok (.iload_n 2, 1) := by decide +kernel
theorem dX3_fill_2 : decode cX3_fill 2 = .ok (.iload_n 3, 1) := by decide +kernel
theorem dX3_fill_3 : decode cX3_fill 3 = .ok (.iload 4, 2) := by decide +kernel
theorem dX3_fill_5 : decode cX3_fill 5 = .ok (.invokestatic 34, 3) := by decide +kernel
theorem dX3_fill_8 : decode cX3_fill 8 = .ok (.invokestatic 38, 3) := by decide +kernel
theorem dX3_fill_11 : decode cX3_fill 11 = .ok (.iload 5, 2) := by decide +kernel
theorem dX3_fill_13 : decode cX3_fill 13 = .ok (.bipush 16, 2) := by decide +kernel
theorem dX3_fill_15 : decode cX3_fill 15 = .ok (.invokestatic 42, 3) := by decide +kernel
theorem dX3_fill_18 : decode cX3_fill 18 = .ok (.invokestatic 38, 3) := by decide +kernel
theorem dX3_fill_21 : decode cX3_fill 21 = .ok (.aload_n 0, 1) := by decide +kernel
theorem dX3_fill_22 : decode cX3_fill 22 = .ok (.getfield 16, 3) := by decide +kernel
theorem dX3_fill_25 : decode cX3_fill 25 = .ok (.aload_n 0, 1) := by decide +kernel
theorem dX3_fill_26 : decode cX3_fill 26 = .ok (.getfield 10, 3) := by decide +kernel
theorem dX3_fill_29 : decode cX3_fill 29 = .ok (.invokevirtual 46, 3) := by decide +kernel
theorem dX3_fill_32 : decode cX3_fill 32 = .ok (.iload_n 2, 1) := by decide +kernel
theorem dX3_fill_33 : decode cX3_fill 33 = .ok (.istore 6, 2) := by decide +kernel
theorem dX3_fill_35 : decode cX3_fill 35 = .ok (.iload 6, 2) := by decide +kernel
theorem dX3_fill_37 : decode cX3_fill 37 = .ok (.iload_n 2, 1) := by decide +kernel
theorem dX3_fill_38 : decode cX3_fill 38 = .ok (.iload 4, 2) := by decide +kernel
theorem dX3_fill_40 : decode cX3_fill 40 = .ok (.iadd, 1) := by decide +kernel
theorem dX3_fill_41 : decode cX3_fill 41 = .ok (.if_icmp .ge 39, 3) := by decide +kernel
theorem dX3_fill_44 : decode cX3_fill 44 = .ok (.iload_n 1, 1) := by decide +kernel
theorem dX3_fill_45 : decode cX3_fill 45 = .ok (.istore 7, 2) := by decide +kernel
theorem dX3_fill_47 : decode cX3_fill 47 = .ok (.iload 7, 2) := by decide +kernel
theorem dX3_fill_49 : decode cX3_fill 49 = .ok (.iload_n 1, 1) := by decide +kernel
theorem dX3_fill_50 : decode cX3_fill 50 = .ok (.iload_n 3, 1) := by decide +kernel
theorem dX3_fill_51 : decode cX3_fill 51 = .ok (.iadd, 1) := by decide +kernel
theorem dX3_fill_52 : decode cX3_fill 52 = .ok (.if_icmp .ge 22, 3) := by decide +kernel
theorem dX3_fill_55 : decode cX3_fill 55 = .ok (.aload_n 0, 1) := by decide +kernel
theorem dX3_fill_56 : decode cX3_fill 56 = .ok (.getfield 10, 3) := by decide +kernel
theorem dX3_fill_59 : decode cX3_fill 59 = .ok (.iload 7, 2) := by decide +kernel
theorem dX3_fill_61 : decode cX3_fill 61 = .ok (.iload 6, 2) := by decide +kernel
theorem dX3_fill_63 : decode cX3_fill 63 = .ok (.iload 5, 2) := by decide +kernel
theorem dX3_fill_65 : decode cX3_fill 65 = .ok (.invokevirtual 50, 3) := by decide +kernel
theorem dX3_fill_68 : decode cX3_fill 68 = .ok (.iinc 7 1, 3) := by decide +kernel
theorem dX3_fill_71 : decode cX3_fill 71 = .ok (.goto (-24), 3) := by decide +kernel
theorem dX3_fill_74 : decode cX3_fill 74 = .ok (.iinc 6 1, 3) := by decide +kernel
theorem dX3_fill_77 : decode cX3_fill 77 = .ok (.goto (-42), 3) := by decide +kernel
theorem dX3_fill_80 : decode cX3_fill 80 = .ok (.aload_n 0, 1) := by decide +kernel
theorem dX3_fill_81 : decode cX3_fill 81 = .ok (.invokevirtual 54, 3) := by decide +kernel
theorem dX3_fill_84 : decode cX3_fill 84 = .ok (.ireturn, 1) := by decide +kernel
set_option maxRecDepth 20000 in
theorem ggX3_copy_X3_isBox : GoodIn wsX3_copy wsX3_isBox := goodIn_r _ [6, 7, 8, 5, 9, 10, 11, 12, 13, 14, 15] (by decide +kernel) (by decide +kernel)
set_option maxRecDepth 20000 in
theorem gX3_copy_X3_isBox : GoodIn wsX3_copy (va_wsS RX3 34 yX3_isBox wsX3_isBox) := goodIn_app (goodIn_of _ (by decide +kernel)) ggX3_copy_X3_isBox
set_option maxRecDepth 20000 in
theorem ggX3_copy_X3_requireArgument : GoodIn wsX3_copy wsX3_requireArgument := goodIn_ca (goodIn_r _ [18, 19, 20] (by decide +kernel) (by decide +kernel)) (goodIn_sub (fun _ h => List.mem_cons_of_mem _ (List.mem_append_right _ h)) (by decide +kernel))
set_option maxRecDepth 20000 in
theorem gX3_copy_X3_requireArgument : GoodIn wsX3_copy (va_wsS RX3 38 yX3_requireArgument wsX3_requireArgument) := goodIn_app (goodIn_of _ (by decide +kernel)) ggX3_copy_X3_requireArgument
set_option maxRecDepth 20000 in
theorem ggX3_copy_X3_isBetween : GoodIn wsX3_copy wsX3_isBetween := goodIn_r _ [15] (by decide +kernel) (by decide +kernel)
set_option maxRecDepth 20000 in
theorem gX3_copy_X3_isBetween : GoodIn wsX3_copy (va_wsS RX3 58 yX3_isBetween wsX3_isBetween) := goodIn_app (goodIn_of _ (by decide +kernel)) ggX3_copy_X3_isBetween
set_option maxRecDepth 20000 in
theorem ggX3_copy_X2_become : GoodIn wsX3_copy wsX2_become := goodIn_r _ [25, 26, 80] (by decide +kernel) (by decide +kernel)
set_option maxRecDepth 20000 in
theorem gX3_copy_X2_become : GoodIn wsX3_copy (wsV RX3 46 RX2 yX2_become wsX2_become) := goodIn_app (goodIn_of _ (by decide +kernel)) ggX3_copy_X2_become
set_option maxRecDepth 20000 in
theorem ggX3_copy_X3_isCell : GoodIn wsX3_copy wsX3_isCell := goodIn_r _ [9, 10, 11, 5, 12] (by decide +kernel) (by decide +kernel)
set_option maxRecDepth 20000 in
theorem gX3_copy_X3_isCell : GoodIn wsX3_copy (va_wsS RX3 62 yX3_isCell wsX3_isCell) := goodIn_app (goodIn_of _ (by decide +kernel)) ggX3_copy_X3_isCell
set_option maxRecDepth 20000 in
theorem ggX3_copy_X2_colourAt : GoodIn wsX3_copy wsX2_colourAt := goodIn_r _ [30, 26, 31, 32, 24, 33, 34, 35, 36, 37, 5, 38, 39, 80] (by decide +kernel) (by decide +kernel)
set_option maxRecDepth 20000 in
theorem gX3_copy_X2_colourAt : GoodIn wsX3_copy (wsV RX3 65 RX2 yX2_colourAt wsX2_colourAt) := goodIn_app (goodIn_of _ (by decide +kernel)) ggX3_copy_X2_colourAt
set_option maxRecDepth 20000 in
theorem ggX3_copy_X2_paint : GoodIn wsX3_copy wsX2_paint := goodIn_r _ [43, 26, 44, 45, 31, 32, 24, 33, 34, 35, 36, 80] (by decide +kernel) (by decide +kernel)
set_option maxRecDepth 20000 in
theorem gX3_copy_X2_paint : GoodIn wsX3_copy (wsV RX3 50 RX2 yX2_paint wsX2_paint) := goodIn_app (goodIn_of _ (by decide +kernel)) ggX3_copy_X2_paint
set_option maxRecDepth 20000 in
theorem ggX3_copy_X3_noteChanges : GoodIn wsX3_copy wsX3_noteChanges := goodIn_r _ [49, 1, 2, 50, 51, 52, 24, 53, 26, 54, 55, 5, 56, 57, 37, 38, 39, 58, 59, 60, 61, 62, 63, 64, 65, 66, 67, 68, 69, 70, 71, 72, 73, 74, 75, 76, 77, 78, 79, 80, 81, 82, 83, 84, 85, 86, 87, 88, 89] (by decide +kernel) (by decide +kernel)
set_option maxRecDepth 20000 in
theorem gX3_copy_X3_noteChanges : GoodIn wsX3_copy (wsV RX3 54 RX3 yX3_noteChanges wsX3_noteChanges) := goodIn_app (goodIn_of _ (by decide +kernel)) ggX3_copy_X3_noteChanges
theorem dX3_copy_0 : decode cX3_copy 0 = .ok (.iload_n 1, 1) := by decide +kernel
theorem dX3_copy_1 : decode cX3_copy 1 = .ok (.iload_n 2, 1) := by decide +kernel
theorem dX3_copy_2 : decode cX3_copy 2 = .ok (.iload_n 3, 1) := by decide +kernel
theorem dX3_copy_3 : decode cX3_copy 3 = .ok (.iload 4, 2) := by decide +kernel
theorem dX3_copy_5 : decode cX3_copy 5 = .ok (.invokestatic 34, 3) := by decide +kernel
theorem dX3_copy_8 : decode cX3_copy 8 = .ok (.invokestatic 38, 3) := by decide +kernel
theorem dX3_copy_11 : decode cX3_copy 11 = .ok (.iload 5, 2) := by decide +kernel
theorem dX3_copy_13 : decode cX3_copy 13 = .ok (.bipush (-15), 2) := by decide +kernel
theorem dX3_copy_15 : decode cX3_copy 15 = .ok (.bipush 15, 2) := by decide +kernel
theorem dX3_copy_17 : decode cX3_copy 17 = .ok (.invokestatic 58, 3) := by decide +kernel
theorem dX3_copy_20 : decode cX3_copy 20 = .ok (.invokestatic 38, 3) := by decide +kernel
theorem dX3_copy_23 : decode cX3_copy 23 = .ok (.iload 6, 2) := by decide +kernel
theorem dX3_copy_25 : decode cX3_copy 25 = .ok (.bipush (-11), 2) := by decide +kernel
theorem dX3_copy_27 : decode cX3_copy 27 = .ok (.bipush 11, 2) := by decide +kernel
theorem dX3_copy_29 : decode cX3_copy 29 = .ok (.invokestatic 58, 3) := by decide +kernel
theorem dX3_copy_32 : decode cX3_copy 32 = .ok (.invokestatic 38, 3) := by decide +kernel
theorem dX3_copy_35 : decode cX3_copy 35 = .ok (.aload_n 0, 1) := by decide +kernel
theorem dX3_copy_36 : decode cX3_copy 36 = .ok (.getfield 16, 3) := by decide +kernel
theorem dX3_copy_39 : decode cX3_copy 39 = .ok (.aload_n 0, 1) := by decide +kernel
theorem dX3_copy_40 : decode cX3_copy 40 = .ok (.getfield 10, 3) := by decide +kernel
theorem dX3_copy_43 : decode cX3_copy 43 = .ok (.invokevirtual 46, 3) := by decide +kernel
theorem dX3_copy_46 : decode cX3_copy 46 = .ok (.iload_n 2, 1) := by decide +kernel
theorem dX3_copy_47 : decode cX3_copy 47 = .ok (.istore 7, 2) := by decide +kernel
theorem dX3_copy_49 : decode cX3_copy 49 = .ok (.iload 7, 2) := by decide +kernel
theorem dX3_copy_51 : decode cX3_copy 51 = .ok (.iload_n 2, 1) := by decide +kernel
theorem dX3_copy_52 : decode cX3_copy 52 = .ok (.iload 4, 2) := by decide +kernel
theorem dX3_copy_54 : decode cX3_copy 54 = .ok (.iadd, 1) := by decide +kernel
theorem dX3_copy_55 : decode cX3_copy 55 = .ok (.if_icmp .ge 70, 3) := by decide +kernel
theorem dX3_copy_58 : decode cX3_copy 58 = .ok (.iload_n 1, 1) := by decide +kernel
theorem dX3_copy_59 : decode cX3_copy 59 = .ok (.istore 8, 2) := by decide +kernel
theorem dX3_copy_61 : decode cX3_copy 61 = .ok (.iload 8, 2) := by decide +kernel
theorem dX3_copy_63 : decode cX3_copy 63 = .ok (.iload_n 1, 1) := by decide +kernel
theorem dX3_copy_64 : decode cX3_copy 64 = .ok (.iload_n 3, 1) := by decide +kernel
theorem dX3_copy_65 : decode cX3_copy 65 = .ok (.iadd, 1) := by decide +kernel
theorem dX3_copy_66 : decode cX3_copy 66 = .ok (.if_icmp .ge 53, 3) := by decide +kernel
theorem dX3_copy_69 : decode cX3_copy 69 = .ok (.iload 8, 2) := by decide +kernel
theorem dX3_copy_71 : decode cX3_copy 71 = .ok (.iload 5, 2) := by decide +kernel
theorem dX3_copy_73 : decode cX3_copy 73 = .ok (.iadd, 1) := by decide +kernel
theorem dX3_copy_74 : decode cX3_copy 74 = .ok (.iload 7, 2) := by decide +kernel
theorem dX3_copy_76 : decode cX3_copy 76 = .ok (.iload 6, 2) := by decide +kernel
theorem dX3_copy_78 : decode cX3_copy 78 = .ok (.iadd, 1) := by decide +kernel
theorem dX3_copy_79 : decode cX3_copy 79 = .ok (.invokestatic 62, 3) := by decide +kernel
theorem dX3_copy_82 : decode cX3_copy 82 = .ok (.ifCond .eq 31, 3) := by decide +kernel
theorem dX3_copy_85 : decode cX3_copy 85 = .ok (.aload_n 0, 1) := by decide +kernel
theorem dX3_copy_86 : decode cX3_copy 86 = .ok (.getfield 10, 3) := by decide +kernel
theorem dX3_copy_89 : decode cX3_copy 89 = .ok (.iload 8, 2) := by decide +kernel
theorem dX3_copy_91 : decode cX3_copy 91 = .ok (.iload 5, 2) := by decide +kernel
theorem dX3_copy_93 : decode cX3_copy 93 = .ok (.iadd, 1) := by decide +kernel
theorem dX3_copy_94 : decode cX3_copy 94 = .ok (.iload 7, 2) := by decide +kernel
theorem dX3_copy_96 : decode cX3_copy 96 = .ok (.iload 6, 2) := by decide +kernel
theorem dX3_copy_98 : decode cX3_copy 98 = .ok (.iadd, 1) := by decide +kernel
theorem dX3_copy_99 : decode cX3_copy 99 = .ok (.aload_n 0, 1) := by decide +kernel
theorem dX3_copy_100 : decode cX3_copy 100 = .ok (.getfield 16, 3) := by decide +kernel
theorem dX3_copy_103 : decode cX3_copy 103 = .ok (.iload 8, 2) := by decide +kernel
theorem dX3_copy_105 : decode cX3_copy 105 = .ok (.iload 7, 2) := by decide +kernel
theorem dX3_copy_107 : decode cX3_copy 107 = .ok (.invokevirtual 65, 3) := by decide +kernel
theorem dX3_copy_110 : decode cX3_copy 110 = .ok (.invokevirtual 50, 3) := by decide +kernel
theorem dX3_copy_113 : decode cX3_copy 113 = .ok (.iinc 8 1, 3) := by decide +kernel
theorem dX3_copy_116 : decode cX3_copy 116 = .ok (.goto (-55), 3) := by decide +kernel
theorem dX3_copy_119 : decode cX3_copy 119 = .ok (.iinc 7 1, 3) := by decide +kernel
theorem dX3_copy_122 : decode cX3_copy 122 = .ok (.goto (-73), 3) := by decide +kernel
theorem dX3_copy_125 : decode cX3_copy 125 = .ok (.aload_n 0, 1) := by decide +kernel
theorem dX3_copy_126 : decode cX3_copy 126 = .ok (.invokevirtual 54, 3) := by decide +kernel
theorem dX3_copy_129 : decode cX3_copy 129 = .ok (.ireturn, 1) := by decide +kernel
set_option maxRecDepth 20000 in
theorem ggX3_colour_X3_isCell : GoodIn wsX3_colour wsX3_isCell := goodIn_r _ [5, 6, 7, 4, 8] (by decide +kernel) (by decide +kernel)
set_option maxRecDepth 20000 in
theorem gX3_colour_X3_isCell : GoodIn wsX3_colour (va_wsS RX3 62 yX3_isCell wsX3_isCell) := goodIn_app (goodIn_of _ (by decide +kernel)) ggX3_colour_X3_isCell
set_option maxRecDepth 20000 in
theorem ggX3_colour_X3_requireArgument : GoodIn wsX3_colour wsX3_requireArgument := goodIn_ca (goodIn_r _ [11, 12, 13] (by decide +kernel) (by decide +kernel)) (goodIn_sub (fun _ h => List.mem_cons_of_mem _ (List.mem_append_right _ h)) (by decide +kernel))
set_option maxRecDepth 20000 in
theorem gX3_colour_X3_requireArgument : GoodIn wsX3_colour (va_wsS RX3 38 yX3_requireArgument wsX3_requireArgument) := goodIn_app (goodIn_of _ (by decide +kernel)) ggX3_colour_X3_requireArgument
set_option maxRecDepth 20000 in
theorem ggX3_colour_X2_colourAt : GoodIn wsX3_colour wsX2_colourAt := goodIn_r _ [18, 19, 20, 21, 17, 22, 23, 24, 25, 26, 4, 27, 28, 34] (by decide +kernel) (by decide +kernel)
set_option maxRecDepth 20000 in
theorem gX3_colour_X2_colourAt : GoodIn wsX3_colour (wsV RX3 65 RX2 yX2_colourAt wsX2_colourAt) := goodIn_app (goodIn_of _ (by decide +kernel)) ggX3_colour_X2_colourAt
theorem dX3_colour_0 : decode cX3_colour 0 = .ok (.iload_n 1, 1) := by decide +kernel
theorem dX3_colour_1 : decode cX3_colour 1 = .ok (.iload_n 2, 1) := by decide +kernel
theorem dX3_colour_2 : decode cX3_colour 2 = .ok (.invokestatic 62, 3) := by decide +kernel
theorem dX3_colour_5 : decode cX3_colour 5 = .ok (.invokestatic 38, 3) := by decide +kernel
theorem dX3_colour_8 : decode cX3_colour 8 = .ok (.aload_n 0, 1) := by decide +kernel
theorem dX3_colour_9 : decode cX3_colour 9 = .ok (.getfield 10, 3) := by decide +kernel
theorem dX3_colour_12 : decode cX3_colour 12 = .ok (.iload_n 1, 1) := by decide +kernel
theorem dX3_colour_13 : decode cX3_colour 13 = .ok (.iload_n 2, 1) := by decide +kernel
theorem dX3_colour_14 : decode cX3_colour 14 = .ok (.invokevirtual 65, 3) := by decide +kernel
theorem dX3_colour_17 : decode cX3_colour 17 = .ok (.ireturn, 1) := by decide +kernel
set_option maxRecDepth 20000 in
theorem ggX3_colours_X3_isIndex : GoodIn wsX3_colours wsX3_isIndex := goodIn_r _ [5] (by decide +kernel) (by decide +kernel)
set_option maxRecDepth 20000 in
theorem gX3_colours_X3_isIndex : GoodIn wsX3_colours (va_wsS RX3 42 yX3_isIndex wsX3_isIndex) := goodIn_app (goodIn_of _ (by decide +kernel)) ggX3_colours_X3_isIndex
set_option maxRecDepth 20000 in
theorem ggX3_colours_X3_requireArgument : GoodIn wsX3_colours wsX3_requireArgument := goodIn_ca (goodIn_r _ [8, 9, 10] (by decide +kernel) (by decide +kernel)) (goodIn_sub (fun _ h => List.mem_cons_of_mem _ (List.mem_append_right _ h)) (by decide +kernel))
set_option maxRecDepth 20000 in
theorem gX3_colours_X3_requireArgument : GoodIn wsX3_colours (va_wsS RX3 38 yX3_requireArgument wsX3_requireArgument) := goodIn_app (goodIn_of _ (by decide +kernel)) ggX3_colours_X3_requireArgument
set_option maxRecDepth 20000 in
theorem ggX3_colours_X2_cellsOf : GoodIn wsX3_colours wsX2_cellsOf := goodIn_r _ [15, 16, 36] (by decide +kernel) (by decide +kernel)
set_option maxRecDepth 20000 in
theorem gX3_colours_X2_cellsOf : GoodIn wsX3_colours (wsV RX3 69 RX2 yX2_cellsOf wsX2_cellsOf) := goodIn_app (goodIn_of _ (by decide +kernel)) ggX3_colours_X2_cellsOf
set_option maxRecDepth 20000 in
theorem ggX3_colours_X3_countColours : GoodIn wsX3_colours wsX3_countColours := goodIn_r _ [19, 20, 21, 4, 22, 23, 24, 25, 26, 27, 28, 29, 30] (by decide +kernel) (by decide +kernel)
set_option maxRecDepth 20000 in
theorem gX3_colours_X3_countColours : GoodIn wsX3_colours (va_wsS RX3 73 yX3_countColours wsX3_countColours) := goodIn_app (goodIn_of _ (by decide +kernel)) ggX3_colours_X3_countColours
theorem dX3_colours_0 : decode cX3_colours 0 = .ok (.iload_n 1, 1) := by decide +kernel
theorem dX3_colours_1 : decode cX3_colours 1 = .ok (.bipush 12, 2) := by decide +kernel
theorem dX3_colours_3 : decode cX3_colours 3 = .ok (.invokestatic 42, 3) := by decide +kernel
theorem dX3_colours_6 : decode cX3_colours 6 = .ok (.invokestatic 38, 3) := by decide +kernel
theorem dX3_colours_9 : decode cX3_colours 9 = .ok (.aload_n 0, 1) := by decide +kernel
theorem dX3_colours_10 : decode cX3_colours 10 = .ok (.getfield 10, 3) := by decide +kernel
theorem dX3_colours_13 : decode cX3_colours 13 = .ok (.iload_n 1, 1) := by decide +kernel
theorem dX3_colours_14 : decode cX3_colours 14 = .ok (.invokevirtual 69, 3) := by decide +kernel
theorem dX3_colours_17 : decode cX3_colours 17 = .ok (.invokestatic 73, 3) := by decide +kernel
theorem dX3_colours_20 : decode cX3_colours 20 = .ok (.ireturn, 1) := by decide +kernel
set_option maxRecDepth 20000 in
theorem ggX3_runs_X3_isIndex : GoodIn wsX3_runs wsX3_isIndex := goodIn_r _ [5] (by decide +kernel) (by decide +kernel)
set_option maxRecDepth 20000 in
theorem gX3_runs_X3_isIndex : GoodIn wsX3_runs (va_wsS RX3 42 yX3_isIndex wsX3_isIndex) := goodIn_app (goodIn_of _ (by decide +kernel)) ggX3_runs_X3_isIndex
set_option maxRecDepth 20000 in
theorem ggX3_runs_X3_requireArgument : GoodIn wsX3_runs wsX3_requireArgument := goodIn_ca (goodIn_r _ [8, 9, 10] (by decide +kernel) (by decide +kernel)) (goodIn_sub (fun _ h => List.mem_cons_of_mem _ (List.mem_append_right _ h)) (by decide +kernel))
set_option maxRecDepth 20000 in
theorem gX3_runs_X3_requireArgument : GoodIn wsX3_runs (va_wsS RX3 38 yX3_requireArgument wsX3_requireArgument) := goodIn_app (goodIn_of _ (by decide +kernel)) ggX3_runs_X3_requireArgument
set_option maxRecDepth 20000 in
theorem ggX3_runs_X2_cellsOf : GoodIn wsX3_runs wsX2_cellsOf := goodIn_r _ [15, 16, 29] (by decide +kernel) (by decide +kernel)
set_option maxRecDepth 20000 in
theorem gX3_runs_X2_cellsOf : GoodIn wsX3_runs (wsV RX3 69 RX2 yX2_cellsOf wsX2_cellsOf) := goodIn_app (goodIn_of _ (by decide +kernel)) ggX3_runs_X2_cellsOf
set_option maxRecDepth 20000 in
theorem ggX3_runs_X3_countRuns : GoodIn wsX3_runs wsX3_countRuns := goodIn_r _ [19, 20, 21, 4, 22, 23] (by decide +kernel) (by decide +kernel)
set_option maxRecDepth 20000 in
theorem gX3_runs_X3_countRuns : GoodIn wsX3_runs (va_wsS RX3 77 yX3_countRuns wsX3_countRuns) := goodIn_app (goodIn_of _ (by decide +kernel)) ggX3_runs_X3_countRuns
theorem dX3_runs_0 : decode cX3_runs 0 = .ok (.iload_n 1, 1) := by decide +kernel
theorem dX3_runs_1 : decode cX3_runs 1 = .ok (.bipush 12, 2) := by decide +kernel
theorem dX3_runs_3 : decode cX3_runs 3 = .ok (.invokestatic 42, 3) := by decide +kernel
theorem dX3_runs_6 : decode cX3_runs 6 = .ok (.invokestatic 38, 3) := by decide +kernel
theorem dX3_runs_9 : decode cX3_runs 9 = .ok (.aload_n 0, 1) := by decide +kernel
theorem dX3_runs_10 : decode cX3_runs 10 = .ok (.getfield 10, 3) := by decide +kernel
theorem dX3_runs_13 : decode cX3_runs 13 = .ok (.iload_n 1, 1) := by decide +kernel
theorem dX3_runs_14 : decode cX3_runs 14 = .ok (.invokevirtual 69, 3) := by decide +kernel
theorem dX3_runs_17 : decode cX3_runs 17 = .ok (.invokestatic 77, 3) := by decide +kernel
theorem dX3_runs_20 : decode cX3_runs 20 = .ok (.ireturn, 1) := by decide +kernel
set_option maxRecDepth 20000 in
theorem ggX3_way_X3_isIndex : GoodIn wsX3_way wsX3_isIndex := goodIn_r _ [6] (by decide +kernel) (by decide +kernel)
set_option maxRecDepth 20000 in
theorem gX3_way_X3_isIndex : GoodIn wsX3_way (va_wsS RX3 42 yX3_isIndex wsX3_isIndex) := goodIn_app (goodIn_of _ (by decide +kernel)) ggX3_way_X3_isIndex
set_option maxRecDepth 20000 in
theorem ggX3_way_X3_requireArgument : GoodIn wsX3_way wsX3_requireArgument := goodIn_ca (goodIn_r _ [9, 10, 11] (by decide +kernel) (by decide +kernel)) (goodIn_sub (fun _ h => List.mem_cons_of_mem _ (List.mem_append_left _ (List.mem_append_right _ h))) (by decide +kernel))
set_option maxRecDepth 20000 in
theorem gX3_way_X3_requireArgument : GoodIn wsX3_way (va_wsS RX3 38 yX3_requireArgument wsX3_requireArgument) := goodIn_app (goodIn_of _ (by decide +kernel)) ggX3_way_X3_requireArgument
set_option maxRecDepth 20000 in
theorem ggX3_way_X1_hasJoined : GoodIn wsX3_way wsX1_hasJoined := goodIn_r _ [16, 17, 76, 77, 78, 79, 80, 81, 82, 83, 84] (by decide +kernel) (by decide +kernel)
set_option maxRecDepth 20000 in
theorem gX3_way_X1_hasJoined : GoodIn wsX3_way (wsV RX3 80 RX1 yX1_hasJoined wsX1_hasJoined) := goodIn_app (goodIn_of _ (by decide +kernel)) ggX3_way_X1_hasJoined
set_option maxRecDepth 20000 in
theorem ggX3_way_X3_requireState : GoodIn wsX3_way wsX3_requireState := goodIn_ca (goodIn_r _ [20, 21, 22] (by decide +kernel) (by decide +kernel)) (goodIn_sub (fun _ h => List.mem_cons_of_mem _ (List.mem_append_right _ h)) (by decide +kernel))
set_option maxRecDepth 20000 in
theorem gX3_way_X3_requireState : GoodIn wsX3_way (va_wsS RX3 84 yX3_requireState wsX3_requireState) := goodIn_app (goodIn_of _ (by decide +kernel)) ggX3_way_X3_requireState
set_option maxRecDepth 20000 in
theorem ggX3_way_X2_cellsOf : GoodIn wsX3_way wsX2_cellsOf := goodIn_r _ [27, 28, 85] (by decide +kernel) (by decide +kernel)
set_option maxRecDepth 20000 in
theorem gX3_way_X2_cellsOf : GoodIn wsX3_way (wsV RX3 69 RX2 yX2_cellsOf wsX2_cellsOf) := goodIn_app (goodIn_of _ (by decide +kernel)) ggX3_way_X2_cellsOf
set_option maxRecDepth 20000 in
theorem ggX3_way_X1_serverCache : GoodIn wsX3_way wsX1_serverCache := goodIn_r _ [32, 33, 76, 77, 78, 79, 80, 81, 82, 83, 84] (by decide +kernel) (by decide +kernel)
set_option maxRecDepth 20000 in
theorem gX3_way_X1_serverCache : GoodIn wsX3_way (wsV RX3 87 RX1 yX1_serverCache wsX1_serverCache) := goodIn_app (goodIn_of _ (by decide +kernel)) ggX3_way_X1_serverCache
set_option maxRecDepth 20000 in
theorem ggX3_way_X3_cheapestWriting : GoodIn wsX3_way wsX3_cheapestWriting := goodIn_r _ [36, 37, 38, 5, 39, 40, 41, 42, 43, 44, 45, 46, 47, 48, 49, 50, 51, 52, 53, 54, 55, 56, 57, 58, 59, 60, 61, 62, 63, 64, 65, 66, 67, 68, 69, 70, 86, 87] (by decide +kernel) (by decide +kernel)
set_option maxRecDepth 20000 in
theorem gX3_way_X3_cheapestWriting : GoodIn wsX3_way (va_wsS RX3 91 yX3_cheapestWriting wsX3_cheapestWriting) := goodIn_app (goodIn_of _ (by decide +kernel)) ggX3_way_X3_cheapestWriting
theorem dX3_way_0 : decode cX3_way 0 = .ok (.iload_n 1, 1) := by decide +kernel
theorem dX3_way_1 : decode cX3_way 1 = .ok (.iconst 2, 1) := by decide +kernel
theorem dX3_way_2 : decode cX3_way 2 = .ok (.invokestatic 42, 3) := by decide +kernel
theorem dX3_way_5 : decode cX3_way 5 = .ok (.invokestatic 38, 3) := by decide +kernel
theorem dX3_way_8 : decode cX3_way 8 = .ok (.iload_n 2, 1) := by decide +kernel
theorem dX3_way_9 : decode cX3_way 9 = .ok (.bipush 12, 2) := by decide +kernel
theorem dX3_way_11 : decode cX3_way 11 = .ok (.invokestatic 42, 3) := by decide +kernel
theorem dX3_way_14 : decode cX3_way 14 = .ok (.invokestatic 38, 3) := by decide +kernel
theorem dX3_way_17 : decode cX3_way 17 = .ok (.aload_n 0, 1) := by decide +kernel
theorem dX3_way_18 : decode cX3_way 18 = .ok (.getfield 21, 3) := by decide +kernel
theorem dX3_way_21 : decode cX3_way 21 = .ok (.iload_n 1, 1) := by decide +kernel
theorem dX3_way_22 : decode cX3_way 22 = .ok (.aaload, 1) := by decide +kernel
theorem dX3_way_23 : decode cX3_way 23 = .ok (.invokevirtual 80, 3) := by decide +kernel
theorem dX3_way_26 : decode cX3_way 26 = .ok (.invokestatic 84, 3) := by decide +kernel
theorem dX3_way_29 : decode cX3_way 29 = .ok (.aload_n 0, 1) := by decide +kernel
theorem dX3_way_30 : decode cX3_way 30 = .ok (.getfield 10, 3) := by decide +kernel
theorem dX3_way_33 : decode cX3_way 33 = .ok (.iload_n 2, 1) := by decide +kernel
theorem dX3_way_34 : decode cX3_way 34 = .ok (.invokevirtual 69, 3) := by decide +kernel
theorem dX3_way_37 : decode cX3_way 37 = .ok (.aload_n 0, 1) := by decide +kernel
theorem dX3_way_38 : decode cX3_way 38 = .ok (.getfield 21, 3) := by decide +kernel
theorem dX3_way_41 : decode cX3_way 41 = .ok (.iload_n 1, 1) := by decide +kernel
theorem dX3_way_42 : decode cX3_way 42 = .ok (.aaload, 1) := by decide +kernel
theorem dX3_way_43 : decode cX3_way 43 = .ok (.invokevirtual 87, 3) := by decide +kernel
theorem dX3_way_46 : decode cX3_way 46 = .ok (.invokestatic 91, 3) := by decide +kernel
theorem dX3_way_49 : decode cX3_way 49 = .ok (.ireturn, 1) := by decide +kernel
set_option maxRecDepth 20000 in
theorem ggX3_join_X3_isIndex : GoodIn wsX3_join wsX3_isIndex := goodIn_r _ [5] (by decide +kernel) (by decide +kernel)
set_option maxRecDepth 20000 in
theorem gX3_join_X3_isIndex : GoodIn wsX3_join (va_wsS RX3 42 yX3_isIndex wsX3_isIndex) := goodIn_app (goodIn_of _ (by decide +kernel)) ggX3_join_X3_isIndex
set_option maxRecDepth 20000 in
theorem ggX3_join_X3_requireArgument : GoodIn wsX3_join wsX3_requireArgument := goodIn_ca (goodIn_r _ [8, 9, 10] (by decide +kernel) (by decide +kernel)) (goodIn_sub (fun _ h => List.mem_cons_of_mem _ (List.mem_append_right _ h)) (by decide +kernel))
set_option maxRecDepth 20000 in
theorem gX3_join_X3_requireArgument : GoodIn wsX3_join (va_wsS RX3 38 yX3_requireArgument wsX3_requireArgument) := goodIn_app (goodIn_of _ (by decide +kernel)) ggX3_join_X3_requireArgument
set_option maxRecDepth 20000 in
theorem ggX3_join_X1_beginAnew : GoodIn wsX3_join wsX1_beginAnew := goodIn_r _ [15, 16, 17, 18, 19, 20, 21, 22, 23, 24, 25, 26, 27, 28, 29, 30, 31, 32, 33, 34, 44, 45, 46, 47, 48, 49, 50, 51, 52, 53, 54, 55] (by decide +kernel) (by decide +kernel)
set_option maxRecDepth 20000 in
theorem gX3_join_X1_beginAnew : GoodIn wsX3_join (wsV RX3 95 RX1 yX1_beginAnew wsX1_beginAnew) := goodIn_app (goodIn_of _ (by decide +kernel)) ggX3_join_X1_beginAnew
set_option maxRecDepth 20000 in
theorem ggX3_join_X1_dirtyCount : GoodIn wsX3_join wsX1_dirtyCount := goodIn_r _ [38, 22, 44, 45, 46, 47, 48, 49, 50, 51, 52] (by decide +kernel) (by decide +kernel)
set_option maxRecDepth 20000 in
theorem gX3_join_X1_dirtyCount : GoodIn wsX3_join (wsV RX3 98 RX1 yX1_dirtyCount wsX1_dirtyCount) := goodIn_app (goodIn_of _ (by decide +kernel)) ggX3_join_X1_dirtyCount
theorem dX3_join_0 : decode cX3_join 0 = .ok (.iload_n 1, 1) := by decide +kernel
theorem dX3_join_1 : decode cX3_join 1 = .ok (.iconst 2, 1) := by decide +kernel
theorem dX3_join_2 : decode cX3_join 2 = .ok (.invokestatic 42, 3) := by decide +kernel
theorem dX3_join_5 : decode cX3_join 5 = .ok (.invokestatic 38, 3) := by decide +kernel
theorem dX3_join_8 : decode cX3_join 8 = .ok (.aload_n 0, 1) := by decide +kernel
theorem dX3_join_9 : decode cX3_join 9 = .ok (.getfield 21, 3) := by decide +kernel
theorem dX3_join_12 : decode cX3_join 12 = .ok (.iload_n 1, 1) := by decide +kernel
theorem dX3_join_13 : decode cX3_join 13 = .ok (.aaload, 1) := by decide +kernel
theorem dX3_join_14 : decode cX3_join 14 = .ok (.invokevirtual 95, 3) := by decide +kernel
theorem dX3_join_17 : decode cX3_join 17 = .ok (.aload_n 0, 1) := by decide +kernel
theorem dX3_join_18 : decode cX3_join 18 = .ok (.getfield 21, 3) := by decide +kernel
theorem dX3_join_21 : decode cX3_join 21 = .ok (.iload_n 1, 1) := by decide +kernel
theorem dX3_join_22 : decode cX3_join 22 = .ok (.aaload, 1) := by decide +kernel
theorem dX3_join_23 : decode cX3_join 23 = .ok (.invokevirtual 98, 3) := by decide +kernel
theorem dX3_join_26 : decode cX3_join 26 = .ok (.ireturn, 1) := by decide +kernel
set_option maxRecDepth 20000 in
theorem ggX3_ask_X3_isIndex : GoodIn wsX3_ask wsX3_isIndex := goodIn_r _ [5] (by decide +kernel) (by decide +kernel)
set_option maxRecDepth 20000 in
theorem gX3_ask_X3_isIndex : GoodIn wsX3_ask (va_wsS RX3 42 yX3_isIndex wsX3_isIndex) := goodIn_app (goodIn_of _ (by decide +kernel)) ggX3_ask_X3_isIndex
set_option maxRecDepth 20000 in
theorem ggX3_ask_X3_requireArgument : GoodIn wsX3_ask wsX3_requireArgument := goodIn_ca (goodIn_r _ [8, 9, 10] (by decide +kernel) (by decide +kernel)) (goodIn_sub (fun _ h => List.mem_cons_of_mem _ (List.mem_append_left _ (List.mem_append_right _ h))) (by decide +kernel))
set_option maxRecDepth 20000 in
theorem gX3_ask_X3_requireArgument : GoodIn wsX3_ask (va_wsS RX3 38 yX3_requireArgument wsX3_requireArgument) := goodIn_app (goodIn_of _ (by decide +kernel)) ggX3_ask_X3_requireArgument
set_option maxRecDepth 20000 in
theorem ggX3_ask_X3_isBetween : GoodIn wsX3_ask wsX3_isBetween := goodIn_r _ [13] (by decide +kernel) (by decide +kernel)
set_option maxRecDepth 20000 in
theorem gX3_ask_X3_isBetween : GoodIn wsX3_ask (va_wsS RX3 58 yX3_isBetween wsX3_isBetween) := goodIn_app (goodIn_of _ (by decide +kernel)) ggX3_ask_X3_isBetween
set_option maxRecDepth 20000 in
theorem ggX3_ask_X1_hasJoined : GoodIn wsX3_ask wsX1_hasJoined := goodIn_r _ [18, 19, 122, 123, 124, 125, 126, 127, 128, 129, 130] (by decide +kernel) (by decide +kernel)
set_option maxRecDepth 20000 in
theorem gX3_ask_X1_hasJoined : GoodIn wsX3_ask (wsV RX3 80 RX1 yX1_hasJoined wsX1_hasJoined) := goodIn_app (goodIn_of _ (by decide +kernel)) ggX3_ask_X1_hasJoined
set_option maxRecDepth 20000 in
theorem ggX3_ask_X3_requireState : GoodIn wsX3_ask wsX3_requireState := goodIn_ca (goodIn_r _ [22, 23, 24] (by decide +kernel) (by decide +kernel)) (goodIn_sub (fun _ h => List.mem_cons_of_mem _ (List.mem_append_right _ h)) (by decide +kernel))
set_option maxRecDepth 20000 in
theorem gX3_ask_X3_requireState : GoodIn wsX3_ask (va_wsS RX3 84 yX3_requireState wsX3_requireState) := goodIn_app (goodIn_of _ (by decide +kernel)) ggX3_ask_X3_requireState
set_option maxRecDepth 20000 in
theorem ggX3_ask_X1_hasMessage : GoodIn wsX3_ask wsX1_hasMessage := goodIn_r _ [28, 29, 122, 123, 124, 125, 126, 127, 128, 129, 130] (by decide +kernel) (by decide +kernel)
set_option maxRecDepth 20000 in
theorem gX3_ask_X1_hasMessage : GoodIn wsX3_ask (wsV RX3 101 RX1 yX1_hasMessage wsX1_hasMessage) := goodIn_app (goodIn_of _ (by decide +kernel)) ggX3_ask_X1_hasMessage
set_option maxRecDepth 20000 in
theorem ggX3_ask_X3_writeMessage : GoodIn wsX3_ask wsX3_writeMessage := goodIn_r _ [33, 34, 35, 36, 37, 38, 39, 17, 40, 41, 42, 43, 44, 45, 46, 47, 48, 49, 50, 51, 52, 53, 54, 55, 56, 57, 58, 59, 4, 60, 61, 62, 63, 64, 65, 66, 67, 68, 69, 70, 71, 72, 73, 74, 75, 76, 77, 78, 79, 80, 81, 82, 83, 84, 85, 86, 87, 88, 89, 90, 91, 92, 93, 94, 95, 96, 97, 98, 29, 99, 100, 101, 102, 103, 104, 105, 106, 107, 108, 109, 110, 111, 112, 117, 118, 119, 120, 121, 122, 123, 124, 125, 126, 127, 128, 129, 130, 131, 132, 133] (by decide +kernel) (by decide +kernel)
set_option maxRecDepth 20000 in
theorem gX3_ask_X3_writeMessage : GoodIn wsX3_ask (wsV RX3 104 RX3 yX3_writeMessage wsX3_writeMessage) := goodIn_app (goodIn_of _ (by decide +kernel)) ggX3_ask_X3_writeMessage
set_option maxRecDepth 20000 in
theorem ggX3_ask_X1_messageCount : GoodIn wsX3_ask wsX1_messageCount := goodIn_r _ [116, 29, 122, 123, 124, 125, 126, 127, 128, 129, 130] (by decide +kernel) (by decide +kernel)
set_option maxRecDepth 20000 in
theorem gX3_ask_X1_messageCount : GoodIn wsX3_ask (wsV RX3 108 RX1 yX1_messageCount wsX1_messageCount) := goodIn_app (goodIn_of _ (by decide +kernel)) ggX3_ask_X1_messageCount
theorem dX3_ask_0 : decode cX3_ask 0 = .ok (.iload_n 1, 1) := by decide +kernel
theorem dX3_ask_1 : decode cX3_ask 1 = .ok (.iconst 2, 1) := by decide +kernel
theorem dX3_ask_2 : decode cX3_ask 2 = .ok (.invokestatic 42, 3) := by decide +kernel
theorem dX3_ask_5 : decode cX3_ask 5 = .ok (.invokestatic 38, 3) := by decide +kernel
theorem dX3_ask_8 : decode cX3_ask 8 = .ok (.iload_n 2, 1) := by decide +kernel
theorem dX3_ask_9 : decode cX3_ask 9 = .ok (.iconst 0, 1) := by decide +kernel
theorem dX3_ask_10 : decode cX3_ask 10 = .ok (.sipush 300, 3) := by decide +kernel
theorem dX3_ask_13 : decode cX3_ask 13 = .ok (.invokestatic 58, 3) := by decide +kernel
theorem dX3_ask_16 : decode cX3_ask 16 = .ok (.invokestatic 38, 3) := by decide +kernel
theorem dX3_ask_19 : decode cX3_ask 19 = .ok (.aload_n 0, 1) := by decide +kernel
theorem dX3_ask_20 : decode cX3_ask 20 = .ok (.getfield 21, 3) := by decide +kernel
theorem dX3_ask_23 : decode cX3_ask 23 = .ok (.iload_n 1, 1) := by decide +kernel
theorem dX3_ask_24 : decode cX3_ask 24 = .ok (.aaload, 1) := by decide +kernel
theorem dX3_ask_25 : decode cX3_ask 25 = .ok (.invokevirtual 80, 3) := by decide +kernel
theorem dX3_ask_28 : decode cX3_ask 28 = .ok (.invokestatic 84, 3) := by decide +kernel
theorem dX3_ask_31 : decode cX3_ask 31 = .ok (.aload_n 0, 1) := by decide +kernel
theorem dX3_ask_32 : decode cX3_ask 32 = .ok (.getfield 21, 3) := by decide +kernel
theorem dX3_ask_35 : decode cX3_ask 35 = .ok (.iload_n 1, 1) := by decide +kernel
theorem dX3_ask_36 : decode cX3_ask 36 = .ok (.aaload, 1) := by decide +kernel
theorem dX3_ask_37 : decode cX3_ask 37 = .ok (.invokevirtual 101, 3) := by decide +kernel
theorem dX3_ask_40 : decode cX3_ask 40 = .ok (.ifCond .ne 7, 3) := by decide +kernel
theorem dX3_ask_43 : decode cX3_ask 43 = .ok (.iconst 1, 1) := by decide +kernel
theorem dX3_ask_44 : decode cX3_ask 44 = .ok (.goto 4, 3) := by decide +kernel
theorem dX3_ask_47 : decode cX3_ask 47 = .ok (.iconst 0, 1) := by decide +kernel
theorem dX3_ask_48 : decode cX3_ask 48 = .ok (.invokestatic 84, 3) := by decide +kernel
theorem dX3_ask_51 : decode cX3_ask 51 = .ok (.aload_n 0, 1) := by decide +kernel
theorem dX3_ask_52 : decode cX3_ask 52 = .ok (.aload_n 0, 1) := by decide +kernel
theorem dX3_ask_53 : decode cX3_ask 53 = .ok (.getfield 21, 3) := by decide +kernel
theorem dX3_ask_56 : decode cX3_ask 56 = .ok (.iload_n 1, 1) := by decide +kernel
theorem dX3_ask_57 : decode cX3_ask 57 = .ok (.aaload, 1) := by decide +kernel
theorem dX3_ask_58 : decode cX3_ask 58 = .ok (.iload_n 2, 1) := by decide +kernel
theorem dX3_ask_59 : decode cX3_ask 59 = .ok (.invokevirtual 104, 3) := by decide +kernel
theorem dX3_ask_62 : decode cX3_ask 62 = .ok (.aload_n 0, 1) := by decide +kernel
theorem dX3_ask_63 : decode cX3_ask 63 = .ok (.getfield 21, 3) := by decide +kernel
theorem dX3_ask_66 : decode cX3_ask 66 = .ok (.iload_n 1, 1) := by decide +kernel
theorem dX3_ask_67 : decode cX3_ask 67 = .ok (.aaload, 1) := by decide +kernel
theorem dX3_ask_68 : decode cX3_ask 68 = .ok (.invokevirtual 108, 3) := by decide +kernel
theorem dX3_ask_71 : decode cX3_ask 71 = .ok (.ireturn, 1) := by decide +kernel
set_option maxRecDepth 20000 in
theorem ggX3_answer_X3_isIndex : GoodIn wsX3_answer wsX3_isIndex := goodIn_r _ [5] (by decide +kernel) (by decide +kernel)
set_option maxRecDepth 20000 in
theorem gX3_answer_X3_isIndex : GoodIn wsX3_answer (va_wsS RX3 42 yX3_isIndex wsX3_isIndex) := goodIn_app (goodIn_of _ (by decide +kernel)) ggX3_answer_X3_isIndex
set_option maxRecDepth 20000 in
theorem ggX3_answer_X3_requireArgument : GoodIn wsX3_answer wsX3_requireArgument := goodIn_ca (goodIn_r _ [8, 9, 10] (by decide +kernel) (by decide +kernel)) (goodIn_sub (fun _ h => List.mem_cons_of_mem _ (List.mem_append_left _ (List.mem_append_right _ h))) (by decide +kernel))
set_option maxRecDepth 20000 in
theorem gX3_answer_X3_requireArgument : GoodIn wsX3_answer (va_wsS RX3 38 yX3_requireArgument wsX3_requireArgument) := goodIn_app (goodIn_of _ (by decide +kernel)) ggX3_answer_X3_requireArgument
set_option maxRecDepth 20000 in
theorem ggX3_answer_X1_hasJoined : GoodIn wsX3_answer wsX1_hasJoined := goodIn_r _ [15, 16, 61, 62, 63, 64, 65, 66, 67, 68, 69] (by decide +kernel) (by decide +kernel)
set_option maxRecDepth 20000 in
theorem gX3_answer_X1_hasJoined : GoodIn wsX3_answer (wsV RX3 80 RX1 yX1_hasJoined wsX1_hasJoined) := goodIn_app (goodIn_of _ (by decide +kernel)) ggX3_answer_X1_hasJoined
set_option maxRecDepth 20000 in
theorem ggX3_answer_X3_requireState : GoodIn wsX3_answer wsX3_requireState := goodIn_ca (goodIn_r _ [19, 20, 21] (by decide +kernel) (by decide +kernel)) (goodIn_sub (fun _ h => List.mem_cons_of_mem _ (List.mem_append_right _ h)) (by decide +kernel))
set_option maxRecDepth 20000 in
theorem gX3_answer_X3_requireState : GoodIn wsX3_answer (va_wsS RX3 84 yX3_requireState wsX3_requireState) := goodIn_app (goodIn_of _ (by decide +kernel)) ggX3_answer_X3_requireState
set_option maxRecDepth 20000 in
theorem ggX3_answer_X1_hasMessage : GoodIn wsX3_answer wsX1_hasMessage := goodIn_r _ [25, 26, 61, 62, 63, 64, 65, 66, 67, 68, 69] (by decide +kernel) (by decide +kernel)
set_option maxRecDepth 20000 in
theorem gX3_answer_X1_hasMessage : GoodIn wsX3_answer (wsV RX3 101 RX1 yX1_hasMessage wsX1_hasMessage) := goodIn_app (goodIn_of _ (by decide +kernel)) ggX3_answer_X1_hasMessage
set_option maxRecDepth 20000 in
theorem ggX3_answer_X1_takeMessage : GoodIn wsX3_answer wsX1_takeMessage := goodIn_r _ [30, 26, 31, 32, 33, 34, 35, 36, 37, 38, 39, 40, 41, 42, 43, 44, 45, 46, 47, 48, 49, 50, 51, 52, 53, 54, 55, 61, 62, 63, 64, 65, 66, 67, 68, 69, 70, 71, 72] (by decide +kernel) (by decide +kernel)
set_option maxRecDepth 20000 in
theorem gX3_answer_X1_takeMessage : GoodIn wsX3_answer (wsV RX3 111 RX1 yX1_takeMessage wsX1_takeMessage) := goodIn_app (goodIn_of _ (by decide +kernel)) ggX3_answer_X1_takeMessage
theorem dX3_answer_0 : decode cX3_answer 0 = .ok (.iload_n 1, 1) := by decide +kernel
theorem dX3_answer_1 : decode cX3_answer 1 = .ok (.iconst 2, 1) := by decide +kernel
theorem dX3_answer_2 : decode cX3_answer 2 = .ok (.invokestatic 42, 3) := by decide +kernel
theorem dX3_answer_5 : decode cX3_answer 5 = .ok (.invokestatic 38, 3) := by decide +kernel
theorem dX3_answer_8 : decode cX3_answer 8 = .ok (.aload_n 0, 1) := by decide +kernel
theorem dX3_answer_9 : decode cX3_answer 9 = .ok (.getfield 21, 3) := by decide +kernel
theorem dX3_answer_12 : decode cX3_answer 12 = .ok (.iload_n 1, 1) := by decide +kernel
theorem dX3_answer_13 : decode cX3_answer 13 = .ok (.aaload, 1) := by decide +kernel
theorem dX3_answer_14 : decode cX3_answer 14 = .ok (.invokevirtual 80, 3) := by decide +kernel
theorem dX3_answer_17 : decode cX3_answer 17 = .ok (.invokestatic 84, 3) := by decide +kernel
theorem dX3_answer_20 : decode cX3_answer 20 = .ok (.aload_n 0, 1) := by decide +kernel
theorem dX3_answer_21 : decode cX3_answer 21 = .ok (.getfield 21, 3) := by decide +kernel
theorem dX3_answer_24 : decode cX3_answer 24 = .ok (.iload_n 1, 1) := by decide +kernel
theorem dX3_answer_25 : decode cX3_answer 25 = .ok (.aaload, 1) := by decide +kernel
theorem dX3_answer_26 : decode cX3_answer 26 = .ok (.invokevirtual 101, 3) := by decide +kernel
theorem dX3_answer_29 : decode cX3_answer 29 = .ok (.invokestatic 84, 3) := by decide +kernel
theorem dX3_answer_32 : decode cX3_answer 32 = .ok (.aload_n 0, 1) := by decide +kernel
theorem dX3_answer_33 : decode cX3_answer 33 = .ok (.getfield 21, 3) := by decide +kernel
theorem dX3_answer_36 : decode cX3_answer 36 = .ok (.iload_n 1, 1) := by decide +kernel
theorem dX3_answer_37 : decode cX3_answer 37 = .ok (.aaload, 1) := by decide +kernel
theorem dX3_answer_38 : decode cX3_answer 38 = .ok (.invokevirtual 111, 3) := by decide +kernel
theorem dX3_answer_41 : decode cX3_answer 41 = .ok (.ireturn, 1) := by decide +kernel
set_option maxRecDepth 20000 in
theorem ggX3_shown_X3_isIndex : GoodIn wsX3_shown wsX3_isIndex := goodIn_r _ [5] (by decide +kernel) (by decide +kernel)
set_option maxRecDepth 20000 in
theorem gX3_shown_X3_isIndex : GoodIn wsX3_shown (va_wsS RX3 42 yX3_isIndex wsX3_isIndex) := goodIn_app (goodIn_of _ (by decide +kernel)) ggX3_shown_X3_isIndex
set_option maxRecDepth 20000 in
theorem ggX3_shown_X3_requireArgument : GoodIn wsX3_shown wsX3_requireArgument := goodIn_ca (goodIn_r _ [8, 9, 10] (by decide +kernel) (by decide +kernel)) (goodIn_sub (fun _ h => List.mem_cons_of_mem _ (List.mem_append_left _ (List.mem_append_right _ h))) (by decide +kernel))
set_option maxRecDepth 20000 in
theorem gX3_shown_X3_requireArgument : GoodIn wsX3_shown (va_wsS RX3 38 yX3_requireArgument wsX3_requireArgument) := goodIn_app (goodIn_of _ (by decide +kernel)) ggX3_shown_X3_requireArgument
set_option maxRecDepth 20000 in
theorem ggX3_shown_X3_isCell : GoodIn wsX3_shown wsX3_isCell := goodIn_r _ [13, 2, 3, 4, 5] (by decide +kernel) (by decide +kernel)
set_option maxRecDepth 20000 in
theorem gX3_shown_X3_isCell : GoodIn wsX3_shown (va_wsS RX3 62 yX3_isCell wsX3_isCell) := goodIn_app (goodIn_of _ (by decide +kernel)) ggX3_shown_X3_isCell
set_option maxRecDepth 20000 in
theorem ggX3_shown_X1_hasJoined : GoodIn wsX3_shown wsX1_hasJoined := goodIn_r _ [18, 19, 50, 51, 52, 53, 54, 55, 56, 57, 58] (by decide +kernel) (by decide +kernel)
set_option maxRecDepth 20000 in
theorem gX3_shown_X1_hasJoined : GoodIn wsX3_shown (wsV RX3 80 RX1 yX1_hasJoined wsX1_hasJoined) := goodIn_app (goodIn_of _ (by decide +kernel)) ggX3_shown_X1_hasJoined
set_option maxRecDepth 20000 in
theorem ggX3_shown_X3_requireState : GoodIn wsX3_shown wsX3_requireState := goodIn_ca (goodIn_r _ [22, 23, 24] (by decide +kernel) (by decide +kernel)) (goodIn_sub (fun _ h => List.mem_cons_of_mem _ (List.mem_append_right _ h)) (by decide +kernel))
set_option maxRecDepth 20000 in
theorem gX3_shown_X3_requireState : GoodIn wsX3_shown (va_wsS RX3 84 yX3_requireState wsX3_requireState) := goodIn_app (goodIn_of _ (by decide +kernel)) ggX3_shown_X3_requireState
set_option maxRecDepth 20000 in
theorem ggX3_shown_X1_ownScreen : GoodIn wsX3_shown wsX1_ownScreen := goodIn_r _ [28, 29, 50, 51, 52, 53, 54, 55, 56, 57, 58] (by decide +kernel) (by decide +kernel)
set_option maxRecDepth 20000 in
theorem gX3_shown_X1_ownScreen : GoodIn wsX3_shown (wsV RX3 114 RX1 yX1_ownScreen wsX1_ownScreen) := goodIn_app (goodIn_of _ (by decide +kernel)) ggX3_shown_X1_ownScreen
set_option maxRecDepth 20000 in
theorem ggX3_shown_X2_colourAt : GoodIn wsX3_shown wsX2_colourAt := goodIn_r _ [34, 35, 36, 37, 33, 38, 39, 40, 41, 42, 4, 43, 44, 59] (by decide +kernel) (by decide +kernel)
set_option maxRecDepth 20000 in
theorem gX3_shown_X2_colourAt : GoodIn wsX3_shown (wsV RX3 65 RX2 yX2_colourAt wsX2_colourAt) := goodIn_app (goodIn_of _ (by decide +kernel)) ggX3_shown_X2_colourAt
theorem dX3_shown_0 : decode cX3_shown 0 = .ok (.iload_n 1, 1) := by decide +kernel
theorem dX3_shown_1 : decode cX3_shown 1 = .ok (.iconst 2, 1) := by decide +kernel
theorem dX3_shown_2 : decode cX3_shown 2 = .ok (.invokestatic 42, 3) := by decide +kernel
theorem dX3_shown_5 : decode cX3_shown 5 = .ok (.invokestatic 38, 3) := by decide +kernel
theorem dX3_shown_8 : decode cX3_shown 8 = .ok (.iload_n 2, 1) := by decide +kernel
theorem dX3_shown_9 : decode cX3_shown 9 = .ok (.iload_n 3, 1) := by decide +kernel
theorem dX3_shown_10 : decode cX3_shown 10 = .ok (.invokestatic 62, 3) := by decide +kernel
theorem dX3_shown_13 : decode cX3_shown 13 = .ok (.invokestatic 38, 3) := by decide +kernel
theorem dX3_shown_16 : decode cX3_shown 16 = .ok (.aload_n 0, 1) := by decide +kernel
theorem dX3_shown_17 : decode cX3_shown 17 = .ok (.getfield 21, 3) := by decide +kernel
theorem dX3_shown_20 : decode cX3_shown 20 = .ok (.iload_n 1, 1) := by decide +kernel
theorem dX3_shown_21 : decode cX3_shown 21 = .ok (.aaload, 1) := by decide +kernel
theorem dX3_shown_22 : decode cX3_shown 22 = .ok (.invokevirtual 80, 3) := by decide +kernel
theorem dX3_shown_25 : decode cX3_shown 25 = .ok (.invokestatic 84, 3) := by decide +kernel
theorem dX3_shown_28 : decode cX3_shown 28 = .ok (.aload_n 0, 1) := by decide +kernel
theorem dX3_shown_29 : decode cX3_shown 29 = .ok (.getfield 21, 3) := by decide +kernel
theorem dX3_shown_32 : decode cX3_shown 32 = .ok (.iload_n 1, 1) := by decide +kernel
theorem dX3_shown_33 : decode cX3_shown 33 = .ok (.aaload, 1) := by decide +kernel
theorem dX3_shown_34 : decode cX3_shown 34 = .ok (.invokevirtual 114, 3) := by decide +kernel
theorem dX3_shown_37 : decode cX3_shown 37 = .ok (.iload_n 2, 1) := by decide +kernel
theorem dX3_shown_38 : decode cX3_shown 38 = .ok (.iload_n 3, 1) := by decide +kernel
theorem dX3_shown_39 : decode cX3_shown 39 = .ok (.invokevirtual 65, 3) := by decide +kernel
theorem dX3_shown_42 : decode cX3_shown 42 = .ok (.ireturn, 1) := by decide +kernel
set_option maxRecDepth 20000 in
theorem ggX3_unlike_X3_isIndex : GoodIn wsX3_unlike wsX3_isIndex := goodIn_r _ [6] (by decide +kernel) (by decide +kernel)
set_option maxRecDepth 20000 in
theorem gX3_unlike_X3_isIndex : GoodIn wsX3_unlike (va_wsS RX3 42 yX3_isIndex wsX3_isIndex) := goodIn_app (goodIn_of _ (by decide +kernel)) ggX3_unlike_X3_isIndex
set_option maxRecDepth 20000 in
theorem ggX3_unlike_X3_requireArgument : GoodIn wsX3_unlike wsX3_requireArgument := goodIn_ca (goodIn_r _ [9, 10, 11] (by decide +kernel) (by decide +kernel)) (goodIn_sub (fun _ h => List.mem_cons_of_mem _ (List.mem_append_left _ (List.mem_append_right _ h))) (by decide +kernel))
set_option maxRecDepth 20000 in
theorem gX3_unlike_X3_requireArgument : GoodIn wsX3_unlike (va_wsS RX3 38 yX3_requireArgument wsX3_requireArgument) := goodIn_app (goodIn_of _ (by decide +kernel)) ggX3_unlike_X3_requireArgument
set_option maxRecDepth 20000 in
theorem ggX3_unlike_X1_hasJoined : GoodIn wsX3_unlike wsX1_hasJoined := goodIn_r _ [16, 17, 46, 47, 48, 49, 50, 51, 52, 53, 54] (by decide +kernel) (by decide +kernel)
set_option maxRecDepth 20000 in
theorem gX3_unlike_X1_hasJoined : GoodIn wsX3_unlike (wsV RX3 80 RX1 yX1_hasJoined wsX1_hasJoined) := goodIn_app (goodIn_of _ (by decide +kernel)) ggX3_unlike_X1_hasJoined
set_option maxRecDepth 20000 in
theorem ggX3_unlike_X3_requireState : GoodIn wsX3_unlike wsX3_requireState := goodIn_ca (goodIn_r _ [20, 21, 22] (by decide +kernel) (by decide +kernel)) (goodIn_sub (fun _ h => List.mem_cons_of_mem _ (List.mem_append_right _ h)) (by decide +kernel))
set_option maxRecDepth 20000 in
theorem gX3_unlike_X3_requireState : GoodIn wsX3_unlike (va_wsS RX3 84 yX3_requireState wsX3_requireState) := goodIn_app (goodIn_of _ (by decide +kernel)) ggX3_unlike_X3_requireState
set_option maxRecDepth 20000 in
theorem ggX3_unlike_X1_ownScreen : GoodIn wsX3_unlike wsX1_ownScreen := goodIn_r _ [26, 27, 46, 47, 48, 49, 50, 51, 52, 53, 54] (by decide +kernel) (by decide +kernel)
set_option maxRecDepth 20000 in
theorem gX3_unlike_X1_ownScreen : GoodIn wsX3_unlike (wsV RX3 114 RX1 yX1_ownScreen wsX1_ownScreen) := goodIn_app (goodIn_of _ (by decide +kernel)) ggX3_unlike_X1_ownScreen
set_option maxRecDepth 20000 in
theorem ggX3_unlike_X2_cellsOf : GoodIn wsX3_unlike wsX2_cellsOf := goodIn_r _ [32, 33, 55] (by decide +kernel) (by decide +kernel)
set_option maxRecDepth 20000 in
theorem gX3_unlike_X2_cellsOf : GoodIn wsX3_unlike (wsV RX3 69 RX2 yX2_cellsOf wsX2_cellsOf) := goodIn_app (goodIn_of _ (by decide +kernel)) ggX3_unlike_X2_cellsOf
set_option maxRecDepth 20000 in
theorem ggX3_unlike_X3_countDifferent : GoodIn wsX3_unlike wsX3_countDifferent := goodIn_r _ [36, 37, 38, 5, 39, 40] (by decide +kernel) (by decide +kernel)
set_option maxRecDepth 20000 in
theorem gX3_unlike_X3_countDifferent : GoodIn wsX3_unlike (va_wsS RX3 118 yX3_countDifferent wsX3_countDifferent) := goodIn_app (goodIn_of _ (by decide +kernel)) ggX3_unlike_X3_countDifferent
theorem dX3_unlike_0 : decode cX3_unlike 0 = .ok (.iload_n 1, 1) := by decide +kernel
theorem dX3_unlike_1 : decode cX3_unlike 1 = .ok (.iconst 2, 1) := by decide +kernel
theorem dX3_unlike_2 : decode cX3_unlike 2 = .ok (.invokestatic 42, 3) := by decide +kernel
theorem dX3_unlike_5 : decode cX3_unlike 5 = .ok (.invokestatic 38, 3) := by decide +kernel
theorem dX3_unlike_8 : decode cX3_unlike 8 = .ok (.aload_n 0, 1) := by decide +kernel
theorem dX3_unlike_9 : decode cX3_unlike 9 = .ok (.getfield 21, 3) := by decide +kernel
theorem dX3_unlike_12 : decode cX3_unlike 12 = .ok (.iload_n 1, 1) := by decide +kernel
theorem dX3_unlike_13 : decode cX3_unlike 13 = .ok (.aaload, 1) := by decide +kernel
theorem dX3_unlike_14 : decode cX3_unlike 14 = .ok (.invokevirtual 80, 3) := by decide +kernel
theorem dX3_unlike_17 : decode cX3_unlike 17 = .ok (.invokestatic 84, 3) := by decide +kernel
theorem dX3_unlike_20 : decode cX3_unlike 20 = .ok (.aload_n 0, 1) := by decide +kernel
theorem dX3_unlike_21 : decode cX3_unlike 21 = .ok (.getfield 21, 3) := by decide +kernel
theorem dX3_unlike_24 : decode cX3_unlike 24 = .ok (.iload_n 1, 1) := by decide +kernel
theorem dX3_unlike_25 : decode cX3_unlike 25 = .ok (.aaload, 1) := by decide +kernel
theorem dX3_unlike_26 : decode cX3_unlike 26 = .ok (.invokevirtual 114, 3) := by decide +kernel
theorem dX3_unlike_29 : decode cX3_unlike 29 = .ok (.astore_n 2, 1) := by decide +kernel
theorem dX3_unlike_30 : decode cX3_unlike 30 = .ok (.iconst 0, 1) := by decide +kernel
theorem dX3_unlike_31 : decode cX3_unlike 31 = .ok (.istore_n 3, 1) := by decide +kernel
theorem dX3_unlike_32 : decode cX3_unlike 32 = .ok (.iconst 0, 1) := by decide +kernel
theorem dX3_unlike_33 : decode cX3_unlike 33 = .ok (.istore 4, 2) := by decide +kernel
theorem dX3_unlike_35 : decode cX3_unlike 35 = .ok (.iload 4, 2) := by decide +kernel
theorem dX3_unlike_37 : decode cX3_unlike 37 = .ok (.bipush 12, 2) := by decide +kernel
theorem dX3_unlike_39 : decode cX3_unlike 39 = .ok (.if_icmp .ge 30, 3) := by decide +kernel
theorem dX3_unlike_42 : decode cX3_unlike 42 = .ok (.iload_n 3, 1) := by decide +kernel
theorem dX3_unlike_43 : decode cX3_unlike 43 = .ok (.aload_n 2, 1) := by decide +kernel
theorem dX3_unlike_44 : decode cX3_unlike 44 = .ok (.iload 4, 2) := by decide +kernel
theorem dX3_unlike_46 : decode cX3_unlike 46 = .ok (.invokevirtual 69, 3) := by decide +kernel
theorem dX3_unlike_49 : decode cX3_unlike 49 = .ok (.aload_n 0, 1) := by decide +kernel
theorem dX3_unlike_50 : decode cX3_unlike 50 = .ok (.getfield 10, 3) := by decide +kernel
theorem dX3_unlike_53 : decode cX3_unlike 53 = .ok (.iload 4, 2) := by decide +kernel
theorem dX3_unlike_55 : decode cX3_unlike 55 = .ok (.invokevirtual 69, 3) := by decide +kernel
theorem dX3_unlike_58 : decode cX3_unlike 58 = .ok (.invokestatic 118, 3) := by decide +kernel
theorem dX3_unlike_61 : decode cX3_unlike 61 = .ok (.iadd, 1) := by decide +kernel
theorem dX3_unlike_62 : decode cX3_unlike 62 = .ok (.istore_n 3, 1) := by decide +kernel
theorem dX3_unlike_63 : decode cX3_unlike 63 = .ok (.iinc 4 1, 3) := by decide +kernel
theorem dX3_unlike_66 : decode cX3_unlike 66 = .ok (.goto (-31), 3) := by decide +kernel
theorem dX3_unlike_69 : decode cX3_unlike 69 = .ok (.iload_n 3, 1) := by decide +kernel
theorem dX3_unlike_70 : decode cX3_unlike 70 = .ok (.ireturn, 1) := by decide +kernel
set_option maxRecDepth 20000 in
theorem ggX3_dirty_X3_isIndex : GoodIn wsX3_dirty wsX3_isIndex := goodIn_r _ [5] (by decide +kernel) (by decide +kernel)
set_option maxRecDepth 20000 in
theorem gX3_dirty_X3_isIndex : GoodIn wsX3_dirty (va_wsS RX3 42 yX3_isIndex wsX3_isIndex) := goodIn_app (goodIn_of _ (by decide +kernel)) ggX3_dirty_X3_isIndex
set_option maxRecDepth 20000 in
theorem ggX3_dirty_X3_requireArgument : GoodIn wsX3_dirty wsX3_requireArgument := goodIn_ca (goodIn_r _ [8, 9, 10] (by decide +kernel) (by decide +kernel)) (goodIn_sub (fun _ h => List.mem_cons_of_mem _ (List.mem_append_left _ (List.mem_append_right _ h))) (by decide +kernel))
set_option maxRecDepth 20000 in
theorem gX3_dirty_X3_requireArgument : GoodIn wsX3_dirty (va_wsS RX3 38 yX3_requireArgument wsX3_requireArgument) := goodIn_app (goodIn_of _ (by decide +kernel)) ggX3_dirty_X3_requireArgument
set_option maxRecDepth 20000 in
theorem ggX3_dirty_X1_hasJoined : GoodIn wsX3_dirty wsX1_hasJoined := goodIn_r _ [15, 16, 32, 33, 34, 35, 36, 37, 38, 39, 40] (by decide +kernel) (by decide +kernel)
set_option maxRecDepth 20000 in
theorem gX3_dirty_X1_hasJoined : GoodIn wsX3_dirty (wsV RX3 80 RX1 yX1_hasJoined wsX1_hasJoined) := goodIn_app (goodIn_of _ (by decide +kernel)) ggX3_dirty_X1_hasJoined
set_option maxRecDepth 20000 in
theorem ggX3_dirty_X3_requireState : GoodIn wsX3_dirty wsX3_requireState := goodIn_ca (goodIn_r _ [19, 20, 21] (by decide +kernel) (by decide +kernel)) (goodIn_sub (fun _ h => List.mem_cons_of_mem _ (List.mem_append_right _ h)) (by decide +kernel))
set_option maxRecDepth 20000 in
theorem gX3_dirty_X3_requireState : GoodIn wsX3_dirty (va_wsS RX3 84 yX3_requireState wsX3_requireState) := goodIn_app (goodIn_of _ (by decide +kernel)) ggX3_dirty_X3_requireState
set_option maxRecDepth 20000 in
theorem ggX3_dirty_X1_dirtyCount : GoodIn wsX3_dirty wsX1_dirtyCount := goodIn_r _ [25, 26, 32, 33, 34, 35, 36, 37, 38, 39, 40] (by decide +kernel) (by decide +kernel)
set_option maxRecDepth 20000 in
theorem gX3_dirty_X1_dirtyCount : GoodIn wsX3_dirty (wsV RX3 98 RX1 yX1_dirtyCount wsX1_dirtyCount) := goodIn_app (goodIn_of _ (by decide +kernel)) ggX3_dirty_X1_dirtyCount
theorem dX3_dirty_0 : decode cX3_dirty 0 = .ok (.iload_n 1, 1) := by decide +kernel
theorem dX3_dirty_1 : decode cX3_dirty 1 = .ok (.iconst 2, 1) := by decide +kernel
theorem dX3_dirty_2 : decode cX3_dirty 2 = .ok (.invokestatic 42, 3) := by decide +kernel
theorem dX3_dirty_5 : decode cX3_dirty 5 = .ok (.invokestatic 38, 3) := by decide +kernel
theorem dX3_dirty_8 : decode cX3_dirty 8 = .ok (.aload_n 0, 1) := by decide +kernel
theorem dX3_dirty_9 : decode cX3_dirty 9 = .ok (.getfield 21, 3) := by decide +kernel
theorem dX3_dirty_12 : decode cX3_dirty 12 = .ok (.iload_n 1, 1) := by decide +kernel
theorem dX3_dirty_13 : decode cX3_dirty 13 = .ok (.aaload, 1) := by decide +kernel
theorem dX3_dirty_14 : decode cX3_dirty 14 = .ok (.invokevirtual 80, 3) := by decide +kernel
theorem dX3_dirty_17 : decode cX3_dirty 17 = .ok (.invokestatic 84, 3) := by decide +kernel
theorem dX3_dirty_20 : decode cX3_dirty 20 = .ok (.aload_n 0, 1) := by decide +kernel
theorem dX3_dirty_21 : decode cX3_dirty 21 = .ok (.getfield 21, 3) := by decide +kernel
theorem dX3_dirty_24 : decode cX3_dirty 24 = .ok (.iload_n 1, 1) := by decide +kernel
theorem dX3_dirty_25 : decode cX3_dirty 25 = .ok (.aaload, 1) := by decide +kernel
theorem dX3_dirty_26 : decode cX3_dirty 26 = .ok (.invokevirtual 98, 3) := by decide +kernel
theorem dX3_dirty_29 : decode cX3_dirty 29 = .ok (.ireturn, 1) := by decide +kernel
set_option maxRecDepth 20000 in
theorem ggX3_dirtyAt_X3_isIndex : GoodIn wsX3_dirtyAt wsX3_isIndex := goodIn_r _ [7] (by decide +kernel) (by decide +kernel)
set_option maxRecDepth 20000 in
theorem gX3_dirtyAt_X3_isIndex : GoodIn wsX3_dirtyAt (va_wsS RX3 42 yX3_isIndex wsX3_isIndex) := goodIn_app (goodIn_of _ (by decide +kernel)) ggX3_dirtyAt_X3_isIndex
set_option maxRecDepth 20000 in
theorem ggX3_dirtyAt_X3_requireArgument : GoodIn wsX3_dirtyAt wsX3_requireArgument := goodIn_ca (goodIn_r _ [10, 11, 12] (by decide +kernel) (by decide +kernel)) (goodIn_sub (fun _ h => List.mem_cons_of_mem _ (List.mem_append_left _ (List.mem_append_right _ h))) (by decide +kernel))
set_option maxRecDepth 20000 in
theorem gX3_dirtyAt_X3_requireArgument : GoodIn wsX3_dirtyAt (va_wsS RX3 38 yX3_requireArgument wsX3_requireArgument) := goodIn_app (goodIn_of _ (by decide +kernel)) ggX3_dirtyAt_X3_requireArgument
set_option maxRecDepth 20000 in
theorem ggX3_dirtyAt_X1_hasJoined : GoodIn wsX3_dirtyAt wsX1_hasJoined := goodIn_r _ [17, 18, 39, 40, 41, 42, 43, 44, 45, 46, 47] (by decide +kernel) (by decide +kernel)
set_option maxRecDepth 20000 in
theorem gX3_dirtyAt_X1_hasJoined : GoodIn wsX3_dirtyAt (wsV RX3 80 RX1 yX1_hasJoined wsX1_hasJoined) := goodIn_app (goodIn_of _ (by decide +kernel)) ggX3_dirtyAt_X1_hasJoined
set_option maxRecDepth 20000 in
theorem ggX3_dirtyAt_X3_requireState : GoodIn wsX3_dirtyAt wsX3_requireState := goodIn_ca (goodIn_r _ [21, 22, 23] (by decide +kernel) (by decide +kernel)) (goodIn_sub (fun _ h => List.mem_cons_of_mem _ (List.mem_append_right _ h)) (by decide +kernel))
set_option maxRecDepth 20000 in
theorem gX3_dirtyAt_X3_requireState : GoodIn wsX3_dirtyAt (va_wsS RX3 84 yX3_requireState wsX3_requireState) := goodIn_app (goodIn_of _ (by decide +kernel)) ggX3_dirtyAt_X3_requireState
set_option maxRecDepth 20000 in
theorem ggX3_dirtyAt_X1_dirtyCount : GoodIn wsX3_dirtyAt wsX1_dirtyCount := goodIn_r _ [27, 28, 39, 40, 41, 42, 43, 44, 45, 46, 47] (by decide +kernel) (by decide +kernel)
set_option maxRecDepth 20000 in
theorem gX3_dirtyAt_X1_dirtyCount : GoodIn wsX3_dirtyAt (wsV RX3 98 RX1 yX1_dirtyCount wsX1_dirtyCount) := goodIn_app (goodIn_of _ (by decide +kernel)) ggX3_dirtyAt_X1_dirtyCount
set_option maxRecDepth 20000 in
theorem ggX3_dirtyAt_X1_dirtyTileAt : GoodIn wsX3_dirtyAt wsX1_dirtyTileAt := goodIn_r _ [32, 33, 39, 40, 41, 42, 43, 44, 45, 46, 47] (by decide +kernel) (by decide +kernel)
set_option maxRecDepth 20000 in
theorem gX3_dirtyAt_X1_dirtyTileAt : GoodIn wsX3_dirtyAt (wsV RX3 129 RX1 yX1_dirtyTileAt wsX1_dirtyTileAt) := goodIn_app (goodIn_of _ (by decide +kernel)) ggX3_dirtyAt_X1_dirtyTileAt
theorem dX3_dirtyAt_0 : decode cX3_dirtyAt 0 = .ok (.iload_n 1, 1) := by decide +kernel
theorem dX3_dirtyAt_1 : decode cX3_dirtyAt 1 = .ok (.iconst 2, 1) := by decide +kernel
theorem dX3_dirtyAt_2 : decode cX3_dirtyAt 2 = .ok (.invokestatic 42, 3) := by decide +kernel
theorem dX3_dirtyAt_5 : decode cX3_dirtyAt 5 = .ok (.invokestatic 38, 3) := by decide +kernel
theorem dX3_dirtyAt_8 : decode cX3_dirtyAt 8 = .ok (.aload_n 0, 1) := by decide +kernel
theorem dX3_dirtyAt_9 : decode cX3_dirtyAt 9 = .ok (.getfield 21, 3) := by decide +kernel
theorem dX3_dirtyAt_12 : decode cX3_dirtyAt 12 = .ok (.iload_n 1, 1) := by decide +kernel
theorem dX3_dirtyAt_13 : decode cX3_dirtyAt 13 = .ok (.aaload, 1) := by decide +kernel
theorem dX3_dirtyAt_14 : decode cX3_dirtyAt 14 = .ok (.invokevirtual 80, 3) := by decide +kernel
theorem dX3_dirtyAt_17 : decode cX3_dirtyAt 17 = .ok (.invokestatic 84, 3) := by decide +kernel
theorem dX3_dirtyAt_20 : decode cX3_dirtyAt 20 = .ok (.iload_n 2, 1) := by decide +kernel
theorem dX3_dirtyAt_21 : decode cX3_dirtyAt 21 = .ok (.aload_n 0, 1) := by decide +kernel
theorem dX3_dirtyAt_22 : decode cX3_dirtyAt 22 = .ok (.getfield 21, 3) := by decide +kernel
theorem dX3_dirtyAt_25 : decode cX3_dirtyAt 25 = .ok (.iload_n 1, 1) := by decide +kernel
theorem dX3_dirtyAt_26 : decode cX3_dirtyAt 26 = .ok (.aaload, 1) := by decide +kernel
theorem dX3_dirtyAt_27 : decode cX3_dirtyAt 27 = .ok (.invokevirtual 98, 3) := by decide +kernel
theorem dX3_dirtyAt_30 : decode cX3_dirtyAt 30 = .ok (.invokestatic 42, 3) := by decide +kernel
theorem dX3_dirtyAt_33 : decode cX3_dirtyAt 33 = .ok (.ifCond .ne 13, 3) := by decide +kernel
theorem dX3_dirtyAt_36 : decode cX3_dirtyAt 36 = .ok (.new 122, 3) := by decide +kernel
theorem dX3_dirtyAt_39 : decode cX3_dirtyAt 39 = .ok (.dup, 1) := by decide +kernel
theorem dX3_dirtyAt_40 : decode cX3_dirtyAt 40 = .ok (.ldc 124, 2) := by decide +kernel
theorem dX3_dirtyAt_42 : decode cX3_dirtyAt 42 = .ok (.invokespecial 126, 3) := by decide +kernel
theorem dX3_dirtyAt_45 : decode cX3_dirtyAt 45 = .ok (.athrow, 1) := by decide +kernel
theorem dX3_dirtyAt_46 : decode cX3_dirtyAt 46 = .ok (.aload_n 0, 1) := by decide +kernel
theorem dX3_dirtyAt_47 : decode cX3_dirtyAt 47 = .ok (.getfield 21, 3) := by decide +kernel
theorem dX3_dirtyAt_50 : decode cX3_dirtyAt 50 = .ok (.iload_n 1, 1) := by decide +kernel
theorem dX3_dirtyAt_51 : decode cX3_dirtyAt 51 = .ok (.aaload, 1) := by decide +kernel
theorem dX3_dirtyAt_52 : decode cX3_dirtyAt 52 = .ok (.iload_n 2, 1) := by decide +kernel
theorem dX3_dirtyAt_53 : decode cX3_dirtyAt 53 = .ok (.invokevirtual 129, 3) := by decide +kernel
theorem dX3_dirtyAt_56 : decode cX3_dirtyAt 56 = .ok (.ireturn, 1) := by decide +kernel
set_option maxRecDepth 20000 in
theorem ggX3_cached_X3_isIndex : GoodIn wsX3_cached wsX3_isIndex := goodIn_r _ [5] (by decide +kernel) (by decide +kernel)
set_option maxRecDepth 20000 in
theorem gX3_cached_X3_isIndex : GoodIn wsX3_cached (va_wsS RX3 42 yX3_isIndex wsX3_isIndex) := goodIn_app (goodIn_of _ (by decide +kernel)) ggX3_cached_X3_isIndex
set_option maxRecDepth 20000 in
theorem ggX3_cached_X3_requireArgument : GoodIn wsX3_cached wsX3_requireArgument := goodIn_ca (goodIn_r _ [8, 9, 10] (by decide +kernel) (by decide +kernel)) (goodIn_sub (fun _ h => List.mem_cons_of_mem _ (List.mem_append_left _ (List.mem_append_right _ h))) (by decide +kernel))
set_option maxRecDepth 20000 in
theorem gX3_cached_X3_requireArgument : GoodIn wsX3_cached (va_wsS RX3 38 yX3_requireArgument wsX3_requireArgument) := goodIn_app (goodIn_of _ (by decide +kernel)) ggX3_cached_X3_requireArgument
set_option maxRecDepth 20000 in
theorem ggX3_cached_X1_hasJoined : GoodIn wsX3_cached wsX1_hasJoined := goodIn_r _ [15, 16, 38, 39, 40, 41, 42, 43, 44, 45, 46] (by decide +kernel) (by decide +kernel)
set_option maxRecDepth 20000 in
theorem gX3_cached_X1_hasJoined : GoodIn wsX3_cached (wsV RX3 80 RX1 yX1_hasJoined wsX1_hasJoined) := goodIn_app (goodIn_of _ (by decide +kernel)) ggX3_cached_X1_hasJoined
set_option maxRecDepth 20000 in
theorem ggX3_cached_X3_requireState : GoodIn wsX3_cached wsX3_requireState := goodIn_ca (goodIn_r _ [19, 20, 21] (by decide +kernel) (by decide +kernel)) (goodIn_sub (fun _ h => List.mem_cons_of_mem _ (List.mem_append_right _ h)) (by decide +kernel))
set_option maxRecDepth 20000 in
theorem gX3_cached_X3_requireState : GoodIn wsX3_cached (va_wsS RX3 84 yX3_requireState wsX3_requireState) := goodIn_app (goodIn_of _ (by decide +kernel)) ggX3_cached_X3_requireState
set_option maxRecDepth 20000 in
theorem ggX3_cached_X1_ownCache : GoodIn wsX3_cached wsX1_ownCache := goodIn_r _ [25, 26, 38, 39, 40, 41, 42, 43, 44, 45, 46] (by decide +kernel) (by decide +kernel)
set_option maxRecDepth 20000 in
theorem gX3_cached_X1_ownCache : GoodIn wsX3_cached (wsV RX3 133 RX1 yX1_ownCache wsX1_ownCache) := goodIn_app (goodIn_of _ (by decide +kernel)) ggX3_cached_X1_ownCache
set_option maxRecDepth 20000 in
theorem ggX3_cached_X0_size : GoodIn wsX3_cached wsX0_size := goodIn_r _ [31, 32, 47, 48] (by decide +kernel) (by decide +kernel)
set_option maxRecDepth 20000 in
theorem gX3_cached_X0_size : GoodIn wsX3_cached (wsV RX3 136 RX0 yX0_size wsX0_size) := goodIn_app (goodIn_of _ (by decide +kernel)) ggX3_cached_X0_size
theorem dX3_cached_0 : decode cX3_cached 0 = .ok (.iload_n 1, 1) := by decide +kernel
theorem dX3_cached_1 : decode cX3_cached 1 = .ok (.iconst 2, 1) := by decide +kernel
theorem dX3_cached_2 : decode cX3_cached 2 = .ok (.invokestatic 42, 3) := by decide +kernel
theorem dX3_cached_5 : decode cX3_cached 5 = .ok (.invokestatic 38, 3) := by decide +kernel
theorem dX3_cached_8 : decode cX3_cached 8 = .ok (.aload_n 0, 1) := by decide +kernel
theorem dX3_cached_9 : decode cX3_cached 9 = .ok (.getfield 21, 3) := by decide +kernel
theorem dX3_cached_12 : decode cX3_cached 12 = .ok (.iload_n 1, 1) := by decide +kernel
theorem dX3_cached_13 : decode cX3_cached 13 = .ok (.aaload, 1) := by decide +kernel
theorem dX3_cached_14 : decode cX3_cached 14 = .ok (.invokevirtual 80, 3) := by decide +kernel
theorem dX3_cached_17 : decode cX3_cached 17 = .ok (.invokestatic 84, 3) := by decide +kernel
theorem dX3_cached_20 : decode cX3_cached 20 = .ok (.aload_n 0, 1) := by decide +kernel
theorem dX3_cached_21 : decode cX3_cached 21 = .ok (.getfield 21, 3) := by decide +kernel
theorem dX3_cached_24 : decode cX3_cached 24 = .ok (.iload_n 1, 1) := by decide +kernel
theorem dX3_cached_25 : decode cX3_cached 25 = .ok (.aaload, 1) := by decide +kernel
theorem dX3_cached_26 : decode cX3_cached 26 = .ok (.invokevirtual 133, 3) := by decide +kernel
theorem dX3_cached_29 : decode cX3_cached 29 = .ok (.invokevirtual 136, 3) := by decide +kernel
theorem dX3_cached_32 : decode cX3_cached 32 = .ok (.ireturn, 1) := by decide +kernel
set_option maxRecDepth 20000 in
theorem ggX3_isAlike_X3_isIndex : GoodIn wsX3_isAlike wsX3_isIndex := goodIn_r _ [5] (by decide +kernel) (by decide +kernel)
set_option maxRecDepth 20000 in
theorem gX3_isAlike_X3_isIndex : GoodIn wsX3_isAlike (va_wsS RX3 42 yX3_isIndex wsX3_isIndex) := goodIn_app (goodIn_of _ (by decide +kernel)) ggX3_isAlike_X3_isIndex
set_option maxRecDepth 20000 in
theorem ggX3_isAlike_X3_requireArgument : GoodIn wsX3_isAlike wsX3_requireArgument := goodIn_ca (goodIn_r _ [8, 9, 10] (by decide +kernel) (by decide +kernel)) (goodIn_sub (fun _ h => List.mem_cons_of_mem _ (List.mem_append_left _ (List.mem_append_right _ h))) (by decide +kernel))
set_option maxRecDepth 20000 in
theorem gX3_isAlike_X3_requireArgument : GoodIn wsX3_isAlike (va_wsS RX3 38 yX3_requireArgument wsX3_requireArgument) := goodIn_app (goodIn_of _ (by decide +kernel)) ggX3_isAlike_X3_requireArgument
set_option maxRecDepth 20000 in
theorem ggX3_isAlike_X1_hasJoined : GoodIn wsX3_isAlike wsX1_hasJoined := goodIn_r _ [15, 16, 44, 45, 46, 47, 48, 49, 50, 51, 52] (by decide +kernel) (by decide +kernel)
set_option maxRecDepth 20000 in
theorem gX3_isAlike_X1_hasJoined : GoodIn wsX3_isAlike (wsV RX3 80 RX1 yX1_hasJoined wsX1_hasJoined) := goodIn_app (goodIn_of _ (by decide +kernel)) ggX3_isAlike_X1_hasJoined
set_option maxRecDepth 20000 in
theorem ggX3_isAlike_X3_requireState : GoodIn wsX3_isAlike wsX3_requireState := goodIn_ca (goodIn_r _ [19, 20, 21] (by decide +kernel) (by decide +kernel)) (goodIn_sub (fun _ h => List.mem_cons_of_mem _ (List.mem_append_right _ h)) (by decide +kernel))
set_option maxRecDepth 20000 in
theorem gX3_isAlike_X3_requireState : GoodIn wsX3_isAlike (va_wsS RX3 84 yX3_requireState wsX3_requireState) := goodIn_app (goodIn_of _ (by decide +kernel)) ggX3_isAlike_X3_requireState
set_option maxRecDepth 20000 in
theorem ggX3_isAlike_X1_serverCache : GoodIn wsX3_isAlike wsX1_serverCache := goodIn_r _ [25, 26, 44, 45, 46, 47, 48, 49, 50, 51, 52] (by decide +kernel) (by decide +kernel)
set_option maxRecDepth 20000 in
theorem gX3_isAlike_X1_serverCache : GoodIn wsX3_isAlike (wsV RX3 87 RX1 yX1_serverCache wsX1_serverCache) := goodIn_app (goodIn_of _ (by decide +kernel)) ggX3_isAlike_X1_serverCache
set_option maxRecDepth 20000 in
theorem ggX3_isAlike_X1_ownCache : GoodIn wsX3_isAlike wsX1_ownCache := goodIn_r _ [30, 31, 44, 45, 46, 47, 48, 49, 50, 51, 52] (by decide +kernel) (by decide +kernel)
set_option maxRecDepth 20000 in
theorem gX3_isAlike_X1_ownCache : GoodIn wsX3_isAlike (wsV RX3 133 RX1 yX1_ownCache wsX1_ownCache) := goodIn_app (goodIn_of _ (by decide +kernel)) ggX3_isAlike_X1_ownCache
set_option maxRecDepth 20000 in
theorem ggX3_isAlike_X0_hasSameTilesAs : GoodIn wsX3_isAlike wsX0_hasSameTilesAs := goodIn_r _ [36, 37, 38, 53, 54] (by decide +kernel) (by decide +kernel)
set_option maxRecDepth 20000 in
theorem gX3_isAlike_X0_hasSameTilesAs : GoodIn wsX3_isAlike (wsV RX3 141 RX0 yX0_hasSameTilesAs wsX0_hasSameTilesAs) := goodIn_app (goodIn_of _ (by decide +kernel)) ggX3_isAlike_X0_hasSameTilesAs
theorem dX3_isAlike_0 : decode cX3_isAlike 0 = .ok (.iload_n 1, 1) := by decide +kernel
theorem dX3_isAlike_1 : decode cX3_isAlike 1 = .ok (.iconst 2, 1) := by decide +kernel
theorem dX3_isAlike_2 : decode cX3_isAlike 2 = .ok (.invokestatic 42, 3) := by decide +kernel
theorem dX3_isAlike_5 : decode cX3_isAlike 5 = .ok (.invokestatic 38, 3) := by decide +kernel
theorem dX3_isAlike_8 : decode cX3_isAlike 8 = .ok (.aload_n 0, 1) := by decide +kernel
theorem dX3_isAlike_9 : decode cX3_isAlike 9 = .ok (.getfield 21, 3) := by decide +kernel
theorem dX3_isAlike_12 : decode cX3_isAlike 12 = .ok (.iload_n 1, 1) := by decide +kernel
theorem dX3_isAlike_13 : decode cX3_isAlike 13 = .ok (.aaload, 1) := by decide +kernel
theorem dX3_isAlike_14 : decode cX3_isAlike 14 = .ok (.invokevirtual 80, 3) := by decide +kernel
theorem dX3_isAlike_17 : decode cX3_isAlike 17 = .ok (.invokestatic 84, 3) := by decide +kernel
theorem dX3_isAlike_20 : decode cX3_isAlike 20 = .ok (.aload_n 0, 1) := by decide +kernel
theorem dX3_isAlike_21 : decode cX3_isAlike 21 = .ok (.getfield 21, 3) := by decide +kernel
theorem dX3_isAlike_24 : decode cX3_isAlike 24 = .ok (.iload_n 1, 1) := by decide +kernel
theorem dX3_isAlike_25 : decode cX3_isAlike 25 = .ok (.aaload, 1) := by decide +kernel
theorem dX3_isAlike_26 : decode cX3_isAlike 26 = .ok (.invokevirtual 87, 3) := by decide +kernel
theorem dX3_isAlike_29 : decode cX3_isAlike 29 = .ok (.aload_n 0, 1) := by decide +kernel
theorem dX3_isAlike_30 : decode cX3_isAlike 30 = .ok (.getfield 21, 3) := by decide +kernel
theorem dX3_isAlike_33 : decode cX3_isAlike 33 = .ok (.iload_n 1, 1) := by decide +kernel
theorem dX3_isAlike_34 : decode cX3_isAlike 34 = .ok (.aaload, 1) := by decide +kernel
theorem dX3_isAlike_35 : decode cX3_isAlike 35 = .ok (.invokevirtual 133, 3) := by decide +kernel
theorem dX3_isAlike_38 : decode cX3_isAlike 38 = .ok (.invokevirtual 141, 3) := by decide +kernel
theorem dX3_isAlike_41 : decode cX3_isAlike 41 = .ok (.ireturn, 1) := by decide +kernel
set_option maxRecDepth 20000 in
theorem ggX3_written_X3_isIndex : GoodIn wsX3_written wsX3_isIndex := goodIn_r _ [5] (by decide +kernel) (by decide +kernel)
set_option maxRecDepth 20000 in
theorem gX3_written_X3_isIndex : GoodIn wsX3_written (va_wsS RX3 42 yX3_isIndex wsX3_isIndex) := goodIn_app (goodIn_of _ (by decide +kernel)) ggX3_written_X3_isIndex
set_option maxRecDepth 20000 in
theorem ggX3_written_X3_requireArgument : GoodIn wsX3_written wsX3_requireArgument := goodIn_ca (goodIn_r _ [8, 9, 10] (by decide +kernel) (by decide +kernel)) (goodIn_sub (fun _ h => List.mem_cons_of_mem _ (List.mem_append_right _ h)) (by decide +kernel))
set_option maxRecDepth 20000 in
theorem gX3_written_X3_requireArgument : GoodIn wsX3_written (va_wsS RX3 38 yX3_requireArgument wsX3_requireArgument) := goodIn_app (goodIn_of _ (by decide +kernel)) ggX3_written_X3_requireArgument
theorem dX3_written_0 : decode cX3_written 0 = .ok (.iload_n 1, 1) := by decide +kernel
theorem dX3_written_1 : decode cX3_written 1 = .ok (.iconst 5, 1) := by decide +kernel
theorem dX3_written_2 : decode cX3_written 2 = .ok (.invokestatic 42, 3) := by decide +kernel
theorem dX3_written_5 : decode cX3_written 5 = .ok (.invokestatic 38, 3) := by decide +kernel
theorem dX3_written_8 : decode cX3_written 8 = .ok (.aload_n 0, 1) := by decide +kernel
theorem dX3_written_9 : decode cX3_written 9 = .ok (.getfield 25, 3) := by decide +kernel
theorem dX3_written_12 : decode cX3_written 12 = .ok (.iload_n 1, 1) := by decide +kernel
theorem dX3_written_13 : decode cX3_written 13 = .ok (.iaload, 1) := by decide +kernel
theorem dX3_written_14 : decode cX3_written 14 = .ok (.ireturn, 1) := by decide +kernel
theorem dX3_units_0 : decode cX3_units 0 = .ok (.aload_n 0, 1) := by decide +kernel
theorem dX3_units_1 : decode cX3_units 1 = .ok (.getfield 29, 3) := by decide +kernel
theorem dX3_units_4 : decode cX3_units 4 = .ok (.ireturn, 1) := by decide +kernel
theorem dX3_requireArgument_0 : decode cX3_requireArgument 0 = .ok (.iload_n 0, 1) := by decide +kernel
theorem dX3_requireArgument_1 : decode cX3_requireArgument 1 = .ok (.ifCond .ne 13, 3) := by decide +kernel
theorem dX3_requireArgument_4 : decode cX3_requireArgument 4 = .ok (.new 145, 3) := by decide +kernel
theorem dX3_requireArgument_7 : decode cX3_requireArgument 7 = .ok (.dup, 1) := by decide +kernel
theorem dX3_requireArgument_8 : decode cX3_requireArgument 8 = .ok (.ldc 147, 2) := by decide +kernel
theorem dX3_requireArgument_10 : decode cX3_requireArgument 10 = .ok (.invokespecial 149, 3) := by decide +kernel
theorem dX3_requireArgument_13 : decode cX3_requireArgument 13 = .ok (.athrow, 1) := by decide +kernel
theorem dX3_requireArgument_14 : decode cX3_requireArgument 14 = .ok (.return_, 1) := by decide +kernel
theorem dX3_requireState_0 : decode cX3_requireState 0 = .ok (.iload_n 0, 1) := by decide +kernel
theorem dX3_requireState_1 : decode cX3_requireState 1 = .ok (.ifCond .ne 13, 3) := by decide +kernel
theorem dX3_requireState_4 : decode cX3_requireState 4 = .ok (.new 150, 3) := by decide +kernel
theorem dX3_requireState_7 : decode cX3_requireState 7 = .ok (.dup, 1) := by decide +kernel
theorem dX3_requireState_8 : decode cX3_requireState 8 = .ok (.ldc 152, 2) := by decide +kernel
theorem dX3_requireState_10 : decode cX3_requireState 10 = .ok (.invokespecial 154, 3) := by decide +kernel
theorem dX3_requireState_13 : decode cX3_requireState 13 = .ok (.athrow, 1) := by decide +kernel
theorem dX3_requireState_14 : decode cX3_requireState 14 = .ok (.return_, 1) := by decide +kernel
theorem dX3_isBetween_0 : decode cX3_isBetween 0 = .ok (.iload_n 0, 1) := by decide +kernel
theorem dX3_isBetween_1 : decode cX3_isBetween 1 = .ok (.iload_n 1, 1) := by decide +kernel
theorem dX3_isBetween_2 : decode cX3_isBetween 2 = .ok (.if_icmp .lt 12, 3) := by decide +kernel
theorem dX3_isBetween_5 : decode cX3_isBetween 5 = .ok (.iload_n 0, 1) := by decide +kernel
theorem dX3_isBetween_6 : decode cX3_isBetween 6 = .ok (.iload_n 2, 1) := by decide +kernel
theorem dX3_isBetween_7 : decode cX3_isBetween 7 = .ok (.if_icmp .gt 7, 3) := by decide +kernel
theorem dX3_isBetween_10 : decode cX3_isBetween 10 = .ok (.iconst 1, 1) := by decide +kernel
theorem dX3_isBetween_11 : decode cX3_isBetween 11 = .ok (.goto 4, 3) := by decide +kernel
theorem dX3_isBetween_14 : decode cX3_isBetween 14 = .ok (.iconst 0, 1) := by decide +kernel
theorem dX3_isBetween_15 : decode cX3_isBetween 15 = .ok (.ireturn, 1) := by decide +kernel
theorem dX3_isIndex_0 : decode cX3_isIndex 0 = .ok (.iload_n 0, 1) := by decide +kernel
theorem dX3_isIndex_1 : decode cX3_isIndex 1 = .ok (.ifCond .lt 12, 3) := by decide +kernel
theorem dX3_isIndex_4 : decode cX3_isIndex 4 = .ok (.iload_n 0, 1) := by decide +kernel
theorem dX3_isIndex_5 : decode cX3_isIndex 5 = .ok (.iload_n 1, 1) := by decide +kernel
theorem dX3_isIndex_6 : decode cX3_isIndex 6 = .ok (.if_icmp .ge 7, 3) := by decide +kernel
theorem dX3_isIndex_9 : decode cX3_isIndex 9 = .ok (.iconst 1, 1) := by decide +kernel
theorem dX3_isIndex_10 : decode cX3_isIndex 10 = .ok (.goto 4, 3) := by decide +kernel
theorem dX3_isIndex_13 : decode cX3_isIndex 13 = .ok (.iconst 0, 1) := by decide +kernel
theorem dX3_isIndex_14 : decode cX3_isIndex 14 = .ok (.ireturn, 1) := by decide +kernel
set_option maxRecDepth 20000 in
theorem ggX3_isCell_X3_isIndex : GoodIn wsX3_isCell wsX3_isIndex := goodIn_r _ [4] (by decide +kernel) (by decide +kernel)
set_option maxRecDepth 20000 in
theorem gX3_isCell_X3_isIndex : GoodIn wsX3_isCell (va_wsS RX3 42 yX3_isIndex wsX3_isIndex) := goodIn_app (goodIn_of _ (by decide +kernel)) ggX3_isCell_X3_isIndex
theorem dX3_isCell_0 : decode cX3_isCell 0 = .ok (.iload_n 0, 1) := by decide +kernel
theorem dX3_isCell_1 : decode cX3_isCell 1 = .ok (.bipush 16, 2) := by decide +kernel
theorem dX3_isCell_3 : decode cX3_isCell 3 = .ok (.invokestatic 42, 3) := by decide +kernel
theorem dX3_isCell_6 : decode cX3_isCell 6 = .ok (.ifCond .eq 16, 3) := by decide +kernel
theorem dX3_isCell_9 : decode cX3_isCell 9 = .ok (.iload_n 1, 1) := by decide +kernel
theorem dX3_isCell_10 : decode cX3_isCell 10 = .ok (.bipush 12, 2) := by decide +kernel
theorem dX3_isCell_12 : decode cX3_isCell 12 = .ok (.invokestatic 42, 3) := by decide +kernel
theorem dX3_isCell_15 : decode cX3_isCell 15 = .ok (.ifCond .eq 7, 3) := by decide +kernel
theorem dX3_isCell_18 : decode cX3_isCell 18 = .ok (.iconst 1, 1) := by decide +kernel
theorem dX3_isCell_19 : decode cX3_isCell 19 = .ok (.goto 4, 3) := by decide +kernel
theorem dX3_isCell_22 : decode cX3_isCell 22 = .ok (.iconst 0, 1) := by decide +kernel
theorem dX3_isCell_23 : decode cX3_isCell 23 = .ok (.ireturn, 1) := by decide +kernel
set_option maxRecDepth 20000 in
theorem ggX3_isBox_X3_isCell : GoodIn wsX3_isBox wsX3_isCell := goodIn_r _ [4, 5, 6, 3, 7] (by decide +kernel) (by decide +kernel)
set_option maxRecDepth 20000 in
theorem gX3_isBox_X3_isCell : GoodIn wsX3_isBox (va_wsS RX3 62 yX3_isCell wsX3_isCell) := goodIn_app (goodIn_of _ (by decide +kernel)) ggX3_isBox_X3_isCell
set_option maxRecDepth 20000 in
theorem ggX3_isBox_X3_isBetween : GoodIn wsX3_isBox wsX3_isBetween := goodIn_r _ [10] (by decide +kernel) (by decide +kernel)
set_option maxRecDepth 20000 in
theorem gX3_isBox_X3_isBetween : GoodIn wsX3_isBox (va_wsS RX3 58 yX3_isBetween wsX3_isBetween) := goodIn_app (goodIn_of _ (by decide +kernel)) ggX3_isBox_X3_isBetween
theorem dX3_isBox_0 : decode cX3_isBox 0 = .ok (.iload_n 0, 1) := by decide +kernel
theorem dX3_isBox_1 : decode cX3_isBox 1 = .ok (.iload_n 1, 1) := by decide +kernel
theorem dX3_isBox_2 : decode cX3_isBox 2 = .ok (.invokestatic 62, 3) := by decide +kernel
theorem dX3_isBox_5 : decode cX3_isBox 5 = .ok (.ifCond .eq 31, 3) := by decide +kernel
theorem dX3_isBox_8 : decode cX3_isBox 8 = .ok (.iload_n 2, 1) := by decide +kernel
theorem dX3_isBox_9 : decode cX3_isBox 9 = .ok (.iconst 1, 1) := by decide +kernel
theorem dX3_isBox_10 : decode cX3_isBox 10 = .ok (.bipush 16, 2) := by decide +kernel
theorem dX3_isBox_12 : decode cX3_isBox 12 = .ok (.iload_n 0, 1) := by decide +kernel
theorem dX3_isBox_13 : decode cX3_isBox 13 = .ok (.isub, 1) := by decide +kernel
theorem dX3_isBox_14 : decode cX3_isBox 14 = .ok (.invokestatic 58, 3) := by decide +kernel
theorem dX3_isBox_17 : decode cX3_isBox 17 = .ok (.ifCond .eq 19, 3) := by decide +kernel
theorem dX3_isBox_20 : decode cX3_isBox 20 = .ok (.iload_n 3, 1) := by decide +kernel
theorem dX3_isBox_21 : decode cX3_isBox 21 = .ok (.iconst 1, 1) := by decide +kernel
theorem dX3_isBox_22 : decode cX3_isBox 22 = .ok (.bipush 12, 2) := by decide +kernel
theorem dX3_isBox_24 : decode cX3_isBox 24 = .ok (.iload_n 1, 1) := by decide +kernel
theorem dX3_isBox_25 : decode cX3_isBox 25 = .ok (.isub, 1) := by decide +kernel
theorem dX3_isBox_26 : decode cX3_isBox 26 = .ok (.invokestatic 58, 3) := by decide +kernel
theorem dX3_isBox_29 : decode cX3_isBox 29 = .ok (.ifCond .eq 7, 3) := by decide +kernel
theorem dX3_isBox_32 : decode cX3_isBox 32 = .ok (.iconst 1, 1) := by decide +kernel
theorem dX3_isBox_33 : decode cX3_isBox 33 = .ok (.goto 4, 3) := by decide +kernel
theorem dX3_isBox_36 : decode cX3_isBox 36 = .ok (.iconst 0, 1) := by decide +kernel
theorem dX3_isBox_37 : decode cX3_isBox 37 = .ok (.ireturn, 1) := by decide +kernel
set_option maxRecDepth 20000 in
theorem ggX3_noteChanges_X2_cellsOf : GoodIn wsX3_noteChanges wsX2_cellsOf := goodIn_r _ [7, 8, 39] (by decide +kernel) (by decide +kernel)
set_option maxRecDepth 20000 in
theorem gX3_noteChanges_X2_cellsOf : GoodIn wsX3_noteChanges (wsV RX3 69 RX2 yX2_cellsOf wsX2_cellsOf) := goodIn_app (goodIn_of _ (by decide +kernel)) ggX3_noteChanges_X2_cellsOf
set_option maxRecDepth 20000 in
theorem ggX3_noteChanges_X3_countDifferent : GoodIn wsX3_noteChanges wsX3_countDifferent := goodIn_r _ [12, 13, 14, 11, 15, 16] (by decide +kernel) (by decide +kernel)
set_option maxRecDepth 20000 in
theorem gX3_noteChanges_X3_countDifferent : GoodIn wsX3_noteChanges (va_wsS RX3 118 yX3_countDifferent wsX3_countDifferent) := goodIn_app (goodIn_of _ (by decide +kernel)) ggX3_noteChanges_X3_countDifferent
set_option maxRecDepth 20000 in
theorem ggX3_noteChanges_X3_makeDirtyForAll : GoodIn wsX3_noteChanges wsX3_makeDirtyForAll := goodIn_r _ [20, 21, 22, 23, 24, 25, 26, 27, 28, 29, 30, 31, 32, 33, 34, 35, 36, 37, 38, 40, 41, 42, 43, 44, 45, 46, 47, 48] (by decide +kernel) (by decide +kernel)
set_option maxRecDepth 20000 in
theorem gX3_noteChanges_X3_makeDirtyForAll : GoodIn wsX3_noteChanges (wsV RX3 155 RX3 yX3_makeDirtyForAll wsX3_makeDirtyForAll) := goodIn_app (goodIn_of _ (by decide +kernel)) ggX3_noteChanges_X3_makeDirtyForAll
theorem dX3_noteChanges_0 : decode cX3_noteChanges 0 = .ok (.iconst 0, 1) := by decide +kernel
theorem dX3_noteChanges_1 : decode cX3_noteChanges 1 = .ok (.istore_n 1, 1) := by decide +kernel
theorem dX3_noteChanges_2 : decode cX3_noteChanges 2 = .ok (.iconst 0, 1) := by decide +kernel
theorem dX3_noteChanges_3 : decode cX3_noteChanges 3 = .ok (.istore_n 2, 1) := by decide +kernel
theorem dX3_noteChanges_4 : decode cX3_noteChanges 4 = .ok (.iload_n 2, 1) := by decide +kernel
theorem dX3_noteChanges_5 : decode cX3_noteChanges 5 = .ok (.bipush 12, 2) := by decide +kernel
theorem dX3_noteChanges_7 : decode cX3_noteChanges 7 = .ok (.if_icmp .ge 42, 3) := by decide +kernel
theorem dX3_noteChanges_10 : decode cX3_noteChanges 10 = .ok (.aload_n 0, 1) := by decide +kernel
theorem dX3_noteChanges_11 : decode cX3_noteChanges 11 = .ok (.getfield 16, 3) := by decide +kernel
theorem dX3_noteChanges_14 : decode cX3_noteChanges 14 = .ok (.iload_n 2, 1) := by decide +kernel
theorem dX3_noteChanges_15 : decode cX3_noteChanges 15 = .ok (.invokevirtual 69, 3) := by decide +kernel
theorem dX3_noteChanges_18 : decode cX3_noteChanges 18 = .ok (.aload_n 0, 1) := by decide +kernel
theorem dX3_noteChanges_19 : decode cX3_noteChanges 19 = .ok (.getfield 10, 3) := by decide +kernel
theorem dX3_noteChanges_22 : decode cX3_noteChanges 22 = .ok (.iload_n 2, 1) := by decide +kernel
theorem dX3_noteChanges_23 : decode cX3_noteChanges 23 = .ok (.invokevirtual 69, 3) := by decide +kernel
theorem dX3_noteChanges_26 : decode cX3_noteChanges 26 = .ok (.invokestatic 118, 3) := by decide +kernel
theorem dX3_noteChanges_29 : decode cX3_noteChanges 29 = .ok (.istore_n 3, 1) := by decide +kernel
theorem dX3_noteChanges_30 : decode cX3_noteChanges 30 = .ok (.iload_n 3, 1) := by decide +kernel
theorem dX3_noteChanges_31 : decode cX3_noteChanges 31 = .ok (.ifCond .le 8, 3) := by decide +kernel
theorem dX3_noteChanges_34 : decode cX3_noteChanges 34 = .ok (.aload_n 0, 1) := by decide +kernel
theorem dX3_noteChanges_35 : decode cX3_noteChanges 35 = .ok (.iload_n 2, 1) := by decide +kernel
theorem dX3_noteChanges_36 : decode cX3_noteChanges 36 = .ok (.invokevirtual 155, 3) := by decide +kernel
theorem dX3_noteChanges_39 : decode cX3_noteChanges 39 = .ok (.iload_n 1, 1) := by decide +kernel
theorem dX3_noteChanges_40 : decode cX3_noteChanges 40 = .ok (.iload_n 3, 1) := by decide +kernel
theorem dX3_noteChanges_41 : decode cX3_noteChanges 41 = .ok (.iadd, 1) := by decide +kernel
theorem dX3_noteChanges_42 : decode cX3_noteChanges 42 = .ok (.istore_n 1, 1) := by decide +kernel
theorem dX3_noteChanges_43 : decode cX3_noteChanges 43 = .ok (.iinc 2 1, 3) := by decide +kernel
theorem dX3_noteChanges_46 : decode cX3_noteChanges 46 = .ok (.goto (-42), 3) := by decide +kernel
theorem dX3_noteChanges_49 : decode cX3_noteChanges 49 = .ok (.iload_n 1, 1) := by decide +kernel
theorem dX3_noteChanges_50 : decode cX3_noteChanges 50 = .ok (.ireturn, 1) := by decide +kernel
set_option maxRecDepth 20000 in
theorem ggX3_makeDirtyForAll_X1_hasJoined : GoodIn wsX3_makeDirtyForAll wsX1_hasJoined := goodIn_r _ [6, 7, 19, 20, 21, 22, 23, 24, 25, 26, 27] (by decide +kernel) (by decide +kernel)
set_option maxRecDepth 20000 in
theorem gX3_makeDirtyForAll_X1_hasJoined : GoodIn wsX3_makeDirtyForAll (wsV RX3 80 RX1 yX1_hasJoined wsX1_hasJoined) := goodIn_app (goodIn_of _ (by decide +kernel)) ggX3_makeDirtyForAll_X1_hasJoined
set_option maxRecDepth 20000 in
theorem ggX3_makeDirtyForAll_X1_makeDirty : GoodIn wsX3_makeDirtyForAll wsX1_makeDirty := goodIn_r _ [11, 12, 13, 19, 20, 21, 22, 23, 24, 25, 26, 27] (by decide +kernel) (by decide +kernel)
set_option maxRecDepth 20000 in
theorem gX3_makeDirtyForAll_X1_makeDirty : GoodIn wsX3_makeDirtyForAll (wsV RX3 159 RX1 yX1_makeDirty wsX1_makeDirty) := goodIn_app (goodIn_of _ (by decide +kernel)) ggX3_makeDirtyForAll_X1_makeDirty
theorem dX3_makeDirtyForAll_0 : decode cX3_makeDirtyForAll 0 = .ok (.iconst 0, 1) := by decide +kernel
theorem dX3_makeDirtyForAll_1 : decode cX3_makeDirtyForAll 1 = .ok (.istore_n 2, 1) := by decide +kernel
theorem dX3_makeDirtyForAll_2 : decode cX3_makeDirtyForAll 2 = .ok (.iload_n 2, 1) := by decide +kernel
theorem dX3_makeDirtyForAll_3 : decode cX3_makeDirtyForAll 3 = .ok (.aload_n 0, 1) := by decide +kernel
theorem dX3_makeDirtyForAll_4 : decode cX3_makeDirtyForAll 4 = .ok (.getfield 21, 3) := by decide +kernel
theorem dX3_makeDirtyForAll_7 : decode cX3_makeDirtyForAll 7 = .ok (.arraylength, 1) := by decide +kernel
theorem dX3_makeDirtyForAll_8 : decode cX3_makeDirtyForAll 8 = .ok (.if_icmp .ge 31, 3) := by decide +kernel
theorem dX3_makeDirtyForAll_11 : decode cX3_makeDirtyForAll 11 = .ok (.aload_n 0, 1) := by decide +kernel
theorem dX3_makeDirtyForAll_12 : decode cX3_makeDirtyForAll 12 = .ok (.getfield 21, 3) := by decide +kernel
theorem dX3_makeDirtyForAll_15 : decode cX3_makeDirtyForAll 15 = .ok (.iload_n 2, 1) := by decide +kernel
theorem dX3_makeDirtyForAll_16 : decode cX3_makeDirtyForAll 16 = .ok (.aaload, 1) := by decide +kernel
theorem dX3_makeDirtyForAll_17 : decode cX3_makeDirtyForAll 17 = .ok (.invokevirtual 80, 3) := by decide +kernel
theorem dX3_makeDirtyForAll_20 : decode cX3_makeDirtyForAll 20 = .ok (.ifCond .eq 13, 3) := by decide +kernel
theorem dX3_makeDirtyForAll_23 : decode cX3_makeDirtyForAll 23 = .ok (.aload_n 0, 1) := by decide +kernel
theorem dX3_makeDirtyForAll_24 : decode cX3_makeDirtyForAll 24 = .ok (.getfield 21, 3) := by decide +kernel
theorem dX3_makeDirtyForAll_27 : decode cX3_makeDirtyForAll 27 = .ok (.iload_n 2, 1) := by decide +kernel
theorem dX3_makeDirtyForAll_28 : decode cX3_makeDirtyForAll 28 = .ok (.aaload, 1) := by decide +kernel
theorem dX3_makeDirtyForAll_29 : decode cX3_makeDirtyForAll 29 = .ok (.iload_n 1, 1) := by decide +kernel
theorem dX3_makeDirtyForAll_30 : decode cX3_makeDirtyForAll 30 = .ok (.invokevirtual 159, 3) := by decide +kernel
theorem dX3_makeDirtyForAll_33 : decode cX3_makeDirtyForAll 33 = .ok (.iinc 2 1, 3) := by decide +kernel
theorem dX3_makeDirtyForAll_36 : decode cX3_makeDirtyForAll 36 = .ok (.goto (-34), 3) := by decide +kernel
theorem dX3_makeDirtyForAll_39 : decode cX3_makeDirtyForAll 39 = .ok (.return_, 1) := by decide +kernel
set_option maxRecDepth 20000 in
theorem ggX3_writeMessage_X1_dirtyCount : GoodIn wsX3_writeMessage wsX1_dirtyCount := goodIn_r _ [8, 9, 88, 89, 90, 91, 92, 93, 94, 95, 96] (by decide +kernel) (by decide +kernel)
set_option maxRecDepth 20000 in
theorem gX3_writeMessage_X1_dirtyCount : GoodIn wsX3_writeMessage (wsV RX3 98 RX1 yX1_dirtyCount wsX1_dirtyCount) := goodIn_app (goodIn_of _ (by decide +kernel)) ggX3_writeMessage_X1_dirtyCount
set_option maxRecDepth 20000 in
theorem ggX3_writeMessage_X1_dirtyTileAt : GoodIn wsX3_writeMessage wsX1_dirtyTileAt := goodIn_r _ [13, 14, 88, 89, 90, 91, 92, 93, 94, 95, 96] (by decide +kernel) (by decide +kernel)
set_option maxRecDepth 20000 in
theorem gX3_writeMessage_X1_dirtyTileAt : GoodIn wsX3_writeMessage (wsV RX3 129 RX1 yX1_dirtyTileAt wsX1_dirtyTileAt) := goodIn_app (goodIn_of _ (by decide +kernel)) ggX3_writeMessage_X1_dirtyTileAt
set_option maxRecDepth 20000 in
theorem ggX3_writeMessage_X2_cellsOf : GoodIn wsX3_writeMessage wsX2_cellsOf := goodIn_r _ [19, 20, 97] (by decide +kernel) (by decide +kernel)
set_option maxRecDepth 20000 in
theorem gX3_writeMessage_X2_cellsOf : GoodIn wsX3_writeMessage (wsV RX3 69 RX2 yX2_cellsOf wsX2_cellsOf) := goodIn_app (goodIn_of _ (by decide +kernel)) ggX3_writeMessage_X2_cellsOf
set_option maxRecDepth 20000 in
theorem ggX3_writeMessage_X1_serverCache : GoodIn wsX3_writeMessage wsX1_serverCache := goodIn_r _ [24, 25, 88, 89, 90, 91, 92, 93, 94, 95, 96] (by decide +kernel) (by decide +kernel)
set_option maxRecDepth 20000 in
theorem gX3_writeMessage_X1_serverCache : GoodIn wsX3_writeMessage (wsV RX3 87 RX1 yX1_serverCache wsX1_serverCache) := goodIn_app (goodIn_of _ (by decide +kernel)) ggX3_writeMessage_X1_serverCache
set_option maxRecDepth 20000 in
theorem ggX3_writeMessage_X3_cheapestWriting : GoodIn wsX3_writeMessage wsX3_cheapestWriting := goodIn_r _ [29, 30, 31, 28, 32, 33, 34, 35, 36, 37, 38, 39, 40, 41, 42, 43, 44, 45, 46, 47, 48, 49, 50, 51, 52, 53, 54, 55, 56, 57, 58, 59, 60, 61, 62, 63, 98, 99] (by decide +kernel) (by decide +kernel)
set_option maxRecDepth 20000 in
theorem gX3_writeMessage_X3_cheapestWriting : GoodIn wsX3_writeMessage (va_wsS RX3 91 yX3_cheapestWriting wsX3_cheapestWriting) := goodIn_app (goodIn_of _ (by decide +kernel)) ggX3_writeMessage_X3_cheapestWriting
set_option maxRecDepth 20000 in
theorem ggX3_writeMessage_X1_addToMessage : GoodIn wsX3_writeMessage wsX1_addToMessage := goodIn_r _ [67, 68, 69, 70, 25, 71, 72, 73, 36, 74, 38, 75, 76, 77, 78, 43, 39, 40, 41, 42, 88, 89, 90, 91, 92, 93, 94, 95, 96, 98, 99] (by decide +kernel) (by decide +kernel)
set_option maxRecDepth 20000 in
theorem gX3_writeMessage_X1_addToMessage : GoodIn wsX3_writeMessage (wsV RX3 162 RX1 yX1_addToMessage wsX1_addToMessage) := goodIn_app (goodIn_of _ (by decide +kernel)) ggX3_writeMessage_X1_addToMessage
set_option maxRecDepth 20000 in
theorem ggX3_writeMessage_X1_cleanTilesOfMessage : GoodIn wsX3_writeMessage wsX1_cleanTilesOfMessage := goodIn_r _ [82, 68, 9, 14, 88, 89, 90, 91, 92, 93, 94, 95, 96] (by decide +kernel) (by decide +kernel)
set_option maxRecDepth 20000 in
theorem gX3_writeMessage_X1_cleanTilesOfMessage : GoodIn wsX3_writeMessage (wsV RX3 166 RX1 yX1_cleanTilesOfMessage wsX1_cleanTilesOfMessage) := goodIn_app (goodIn_of _ (by decide +kernel)) ggX3_writeMessage_X1_cleanTilesOfMessage
theorem dX3_writeMessage_0 : decode cX3_writeMessage 0 = .ok (.iload_n 2, 1) := by decide +kernel
theorem dX3_writeMessage_1 : decode cX3_writeMessage 1 = .ok (.istore_n 3, 1) := by decide +kernel
theorem dX3_writeMessage_2 : decode cX3_writeMessage 2 = .ok (.aload_n 1, 1) := by decide +kernel
theorem dX3_writeMessage_3 : decode cX3_writeMessage 3 = .ok (.invokevirtual 98, 3) := by decide +kernel
theorem dX3_writeMessage_6 : decode cX3_writeMessage 6 = .ok (.istore 4, 2) := by decide +kernel
theorem dX3_writeMessage_8 : decode cX3_writeMessage 8 = .ok (.iconst 0, 1) := by decide +kernel
theorem dX3_writeMessage_9 : decode cX3_writeMessage 9 = .ok (.istore 5, 2) := by decide +kernel
theorem dX3_writeMessage_11 : decode cX3_writeMessage 11 = .ok (.iload 5, 2) := by decide +kernel
theorem dX3_writeMessage_13 : decode cX3_writeMessage 13 = .ok (.iload 4, 2) := by decide +kernel
theorem dX3_writeMessage_15 : decode cX3_writeMessage 15 = .ok (.if_icmp .ge 82, 3) := by decide +kernel
theorem dX3_writeMessage_18 : decode cX3_writeMessage 18 = .ok (.aload_n 1, 1) := by decide +kernel
theorem dX3_writeMessage_19 : decode cX3_writeMessage 19 = .ok (.iload 5, 2) := by decide +kernel
theorem dX3_writeMessage_21 : decode cX3_writeMessage 21 = .ok (.invokevirtual 129, 3) := by decide +kernel
theorem dX3_writeMessage_24 : decode cX3_writeMessage 24 = .ok (.istore 6, 2) := by decide +kernel
theorem dX3_writeMessage_26 : decode cX3_writeMessage 26 = .ok (.aload_n 0, 1) := by decide +kernel
theorem dX3_writeMessage_27 : decode cX3_writeMessage 27 = .ok (.getfield 10, 3) := by decide +kernel
theorem dX3_writeMessage_30 : decode cX3_writeMessage 30 = .ok (.iload 6, 2) := by decide +kernel
theorem dX3_writeMessage_32 : decode cX3_writeMessage 32 = .ok (.invokevirtual 69, 3) := by decide +kernel
theorem dX3_writeMessage_35 : decode cX3_writeMessage 35 = .ok (.lstore 7, 2) := by decide +kernel
theorem dX3_writeMessage_37 : decode cX3_writeMessage 37 = .ok (.lload 7, 2) := by decide +kernel
theorem dX3_writeMessage_39 : decode cX3_writeMessage 39 = .ok (.aload_n 1, 1) := by decide +kernel
theorem dX3_writeMessage_40 : decode cX3_writeMessage 40 = .ok (.invokevirtual 87, 3) := by decide +kernel
theorem dX3_writeMessage_43 : decode cX3_writeMessage 43 = .ok (.invokestatic 91, 3) := by decide +kernel
theorem dX3_writeMessage_46 : decode cX3_writeMessage 46 = .ok (.istore 9, 2) := by decide +kernel
theorem dX3_writeMessage_48 : decode cX3_writeMessage 48 = .ok (.iload 9, 2) := by decide +kernel
theorem dX3_writeMessage_50 : decode cX3_writeMessage 50 = .ok (.bipush 100, 2) := by decide +kernel
theorem dX3_writeMessage_52 : decode cX3_writeMessage 52 = .ok (.irem, 1) := by decide +kernel
theorem dX3_writeMessage_53 : decode cX3_writeMessage 53 = .ok (.istore 10, 2) := by decide +kernel
theorem dX3_writeMessage_55 : decode cX3_writeMessage 55 = .ok (.iload 10, 2) := by decide +kernel
theorem dX3_writeMessage_57 : decode cX3_writeMessage 57 = .ok (.iload_n 3, 1) := by decide +kernel
theorem dX3_writeMessage_58 : decode cX3_writeMessage 58 = .ok (.if_icmp .le 6, 3) := by decide +kernel
theorem dX3_writeMessage_61 : decode cX3_writeMessage 61 = .ok (.goto 36, 3) := by decide +kernel
theorem dX3_writeMessage_64 : decode cX3_writeMessage 64 = .ok (.iload_n 3, 1) := by decide +kernel
theorem dX3_writeMessage_65 : decode cX3_writeMessage 65 = .ok (.iload 10, 2) := by decide +kernel
theorem dX3_writeMessage_67 : decode cX3_writeMessage 67 = .ok (.isub, 1) := by decide +kernel
theorem dX3_writeMessage_68 : decode cX3_writeMessage 68 = .ok (.istore_n 3, 1) := by decide +kernel
theorem dX3_writeMessage_69 : decode cX3_writeMessage 69 = .ok (.aload_n 1, 1) := by decide +kernel
theorem dX3_writeMessage_70 : decode cX3_writeMessage 70 = .ok (.iload 6, 2) := by decide +kernel
theorem dX3_writeMessage_72 : decode cX3_writeMessage 72 = .ok (.lload 7, 2) := by decide +kernel
theorem dX3_writeMessage_74 : decode cX3_writeMessage 74 = .ok (.invokevirtual 162, 3) := by decide +kernel
theorem dX3_writeMessage_77 : decode cX3_writeMessage 77 = .ok (.aload_n 0, 1) := by decide +kernel
theorem dX3_writeMessage_78 : decode cX3_writeMessage 78 = .ok (.getfield 25, 3) := by decide +kernel
theorem dX3_writeMessage_81 : decode cX3_writeMessage 81 = .ok (.iload 9, 2) := by decide +kernel
theorem dX3_writeMessage_83 : decode cX3_writeMessage 83 = .ok (.bipush 100, 2) := by decide +kernel
theorem dX3_writeMessage_85 : decode cX3_writeMessage 85 = .ok (.idiv, 1) := by decide +kernel
theorem dX3_writeMessage_86 : decode cX3_writeMessage 86 = .ok (.dup2, 1) := by decide +kernel
theorem dX3_writeMessage_87 : decode cX3_writeMessage 87 = .ok (.iaload, 1) := by decide +kernel
theorem dX3_writeMessage_88 : decode cX3_writeMessage 88 = .ok (.iconst 1, 1) := by decide +kernel
theorem dX3_writeMessage_89 : decode cX3_writeMessage 89 = .ok (.iadd, 1) := by decide +kernel
theorem dX3_writeMessage_90 : decode cX3_writeMessage 90 = .ok (.iastore, 1) := by decide +kernel
theorem dX3_writeMessage_91 : decode cX3_writeMessage 91 = .ok (.iinc 5 1, 3) := by decide +kernel
theorem dX3_writeMessage_94 : decode cX3_writeMessage 94 = .ok (.goto (-83), 3) := by decide +kernel
theorem dX3_writeMessage_97 : decode cX3_writeMessage 97 = .ok (.aload_n 0, 1) := by decide +kernel
theorem dX3_writeMessage_98 : decode cX3_writeMessage 98 = .ok (.dup, 1) := by decide +kernel
theorem dX3_writeMessage_99 : decode cX3_writeMessage 99 = .ok (.getfield 29, 3) := by decide +kernel
theorem dX3_writeMessage_102 : decode cX3_writeMessage 102 = .ok (.iload_n 2, 1) := by decide +kernel
theorem dX3_writeMessage_103 : decode cX3_writeMessage 103 = .ok (.iload_n 3, 1) := by decide +kernel
theorem dX3_writeMessage_104 : decode cX3_writeMessage 104 = .ok (.isub, 1) := by decide +kernel
theorem dX3_writeMessage_105 : decode cX3_writeMessage 105 = .ok (.iadd, 1) := by decide +kernel
theorem dX3_writeMessage_106 : decode cX3_writeMessage 106 = .ok (.putfield 29, 3) := by decide +kernel
theorem dX3_writeMessage_109 : decode cX3_writeMessage 109 = .ok (.aload_n 1, 1) := by decide +kernel
theorem dX3_writeMessage_110 : decode cX3_writeMessage 110 = .ok (.invokevirtual 166, 3) := by decide +kernel
theorem dX3_writeMessage_113 : decode cX3_writeMessage 113 = .ok (.return_, 1) := by decide +kernel
set_option maxRecDepth 20000 in
theorem ggX3_cheapestWriting_X3_unitsIn : GoodIn wsX3_cheapestWriting wsX3_unitsIn := goodIn_r _ [4, 5, 6, 7, 8, 9, 10, 11, 12, 13, 14, 15, 16, 17, 3, 18, 19, 20, 21, 22, 23, 24, 25, 26, 27, 28, 29, 30, 31, 32, 33, 34, 35, 36, 37] (by decide +kernel) (by decide +kernel)
set_option maxRecDepth 20000 in
theorem gX3_cheapestWriting_X3_unitsIn : GoodIn wsX3_cheapestWriting (va_wsS RX3 169 yX3_unitsIn wsX3_unitsIn) := goodIn_app (goodIn_of _ (by decide +kernel)) ggX3_cheapestWriting_X3_unitsIn
theorem dX3_cheapestWriting_0 : decode cX3_cheapestWriting 0 = .ok (.iconst 0, 1) := by decide +kernel
theorem dX3_cheapestWriting_1 : decode cX3_cheapestWriting 1 = .ok (.istore_n 3, 1) := by decide +kernel
theorem dX3_cheapestWriting_2 : decode cX3_cheapestWriting 2 = .ok (.bipush 99, 2) := by decide +kernel
theorem dX3_cheapestWriting_4 : decode cX3_cheapestWriting 4 = .ok (.istore 4, 2) := by decide +kernel
theorem dX3_cheapestWriting_6 : decode cX3_cheapestWriting 6 = .ok (.iconst 0, 1) := by decide +kernel
theorem dX3_cheapestWriting_7 : decode cX3_cheapestWriting 7 = .ok (.istore 5, 2) := by decide +kernel
theorem dX3_cheapestWriting_9 : decode cX3_cheapestWriting 9 = .ok (.iload 5, 2) := by decide +kernel
theorem dX3_cheapestWriting_11 : decode cX3_cheapestWriting 11 = .ok (.iconst 5, 1) := by decide +kernel
theorem dX3_cheapestWriting_12 : decode cX3_cheapestWriting 12 = .ok (.if_icmp .ge 32, 3) := by decide +kernel
theorem dX3_cheapestWriting_15 : decode cX3_cheapestWriting 15 = .ok (.iload 5, 2) := by decide +kernel
theorem dX3_cheapestWriting_17 : decode cX3_cheapestWriting 17 = .ok (.lload_n 0, 1) := by decide +kernel
theorem dX3_cheapestWriting_18 : decode cX3_cheapestWriting 18 = .ok (.aload_n 2, 1) := by decide +kernel
theorem dX3_cheapestWriting_19 : decode cX3_cheapestWriting 19 = .ok (.invokestatic 169, 3) := by decide +kernel
theorem dX3_cheapestWriting_22 : decode cX3_cheapestWriting 22 = .ok (.istore 6, 2) := by decide +kernel
theorem dX3_cheapestWriting_24 : decode cX3_cheapestWriting 24 = .ok (.iload 6, 2) := by decide +kernel
theorem dX3_cheapestWriting_26 : decode cX3_cheapestWriting 26 = .ok (.iload 4, 2) := by decide +kernel
theorem dX3_cheapestWriting_28 : decode cX3_cheapestWriting 28 = .ok (.if_icmp .ge 10, 3) := by decide +kernel
theorem dX3_cheapestWriting_31 : decode cX3_cheapestWriting 31 = .ok (.iload 5, 2) := by decide +kernel
theorem dX3_cheapestWriting_33 : decode cX3_cheapestWriting 33 = .ok (.istore_n 3, 1) := by decide +kernel
theorem dX3_cheapestWriting_34 : decode cX3_cheapestWriting 34 = .ok (.iload 6, 2) := by decide +kernel
theorem dX3_cheapestWriting_36 : decode cX3_cheapestWriting 36 = .ok (.istore 4, 2) := by decide +kernel
theorem dX3_cheapestWriting_38 : decode cX3_cheapestWriting 38 = .ok (.iinc 5 1, 3) := by decide +kernel
theorem dX3_cheapestWriting_41 : decode cX3_cheapestWriting 41 = .ok (.goto (-32), 3) := by decide +kernel
theorem dX3_cheapestWriting_44 : decode cX3_cheapestWriting 44 = .ok (.bipush 100, 2) := by decide +kernel
theorem dX3_cheapestWriting_46 : decode cX3_cheapestWriting 46 = .ok (.iload_n 3, 1) := by decide +kernel
theorem dX3_cheapestWriting_47 : decode cX3_cheapestWriting 47 = .ok (.imul, 1) := by decide +kernel
theorem dX3_cheapestWriting_48 : decode cX3_cheapestWriting 48 = .ok (.iload 4, 2) := by decide +kernel
theorem dX3_cheapestWriting_50 : decode cX3_cheapestWriting 50 = .ok (.iadd, 1) := by decide +kernel
theorem dX3_cheapestWriting_51 : decode cX3_cheapestWriting 51 = .ok (.ireturn, 1) := by decide +kernel
set_option maxRecDepth 20000 in
theorem ggX3_unitsIn_X0_holds : GoodIn wsX3_unitsIn wsX0_holds := goodIn_r _ [5, 6, 7, 8, 9, 4, 10, 11, 33, 34] (by decide +kernel) (by decide +kernel)
set_option maxRecDepth 20000 in
theorem gX3_unitsIn_X0_holds : GoodIn wsX3_unitsIn (wsV RX3 173 RX0 yX0_holds wsX0_holds) := goodIn_app (goodIn_of _ (by decide +kernel)) ggX3_unitsIn_X0_holds
set_option maxRecDepth 20000 in
theorem ggX3_unitsIn_X3_countColours : GoodIn wsX3_unitsIn wsX3_countColours := goodIn_r _ [15, 16, 17, 14, 18, 19, 20, 21, 22, 23, 24, 25, 26] (by decide +kernel) (by decide +kernel)
set_option maxRecDepth 20000 in
theorem gX3_unitsIn_X3_countColours : GoodIn wsX3_unitsIn (va_wsS RX3 73 yX3_countColours wsX3_countColours) := goodIn_app (goodIn_of _ (by decide +kernel)) ggX3_unitsIn_X3_countColours
set_option maxRecDepth 20000 in
theorem ggX3_unitsIn_X3_unitsByColours : GoodIn wsX3_unitsIn wsX3_unitsByColours := goodIn_r _ [29] (by decide +kernel) (by decide +kernel)
set_option maxRecDepth 20000 in
theorem gX3_unitsIn_X3_unitsByColours : GoodIn wsX3_unitsIn (va_wsS RX3 177 yX3_unitsByColours wsX3_unitsByColours) := goodIn_app (goodIn_of _ (by decide +kernel)) ggX3_unitsIn_X3_unitsByColours
set_option maxRecDepth 20000 in
theorem ggX3_unitsIn_X3_countRuns : GoodIn wsX3_unitsIn wsX3_countRuns := goodIn_r _ [32, 16, 17, 14, 18, 19] (by decide +kernel) (by decide +kernel)
set_option maxRecDepth 20000 in
theorem gX3_unitsIn_X3_countRuns : GoodIn wsX3_unitsIn (va_wsS RX3 77 yX3_countRuns wsX3_countRuns) := goodIn_app (goodIn_of _ (by decide +kernel)) ggX3_unitsIn_X3_countRuns
theorem dX3_unitsIn_0 : decode cX3_unitsIn 0 = .ok (.iload_n 0, 1) := by decide +kernel
theorem dX3_unitsIn_1 : decode cX3_unitsIn 1 = .ok (.tableswitch 78 0 3 #[31, 46, 61, 69], 31) := by decide +kernel
theorem dX3_unitsIn_32 : decode cX3_unitsIn 32 = .ok (.aload_n 3, 1) := by decide +kernel
theorem dX3_unitsIn_33 : decode cX3_unitsIn 33 = .ok (.lload_n 1, 1) := by decide +kernel
theorem dX3_unitsIn_34 : decode cX3_unitsIn 34 = .ok (.invokevirtual 173, 3) := by decide +kernel
theorem dX3_unitsIn_37 : decode cX3_unitsIn 37 = .ok (.ifCond .eq 7, 3) := by decide +kernel
theorem dX3_unitsIn_40 : decode cX3_unitsIn 40 = .ok (.iconst 2, 1) := by decide +kernel
theorem dX3_unitsIn_41 : decode cX3_unitsIn 41 = .ok (.goto 5, 3) := by decide +kernel
theorem dX3_unitsIn_44 : decode cX3_unitsIn 44 = .ok (.bipush 99, 2) := by decide +kernel
theorem dX3_unitsIn_46 : decode cX3_unitsIn 46 = .ok (.ireturn, 1) := by decide +kernel
theorem dX3_unitsIn_47 : decode cX3_unitsIn 47 = .ok (.lload_n 1, 1) := by decide +kernel
theorem dX3_unitsIn_48 : decode cX3_unitsIn 48 = .ok (.invokestatic 73, 3) := by decide +kernel
theorem dX3_unitsIn_51 : decode cX3_unitsIn 51 = .ok (.iconst 1, 1) := by decide +kernel
theorem dX3_unitsIn_52 : decode cX3_unitsIn 52 = .ok (.if_icmp .ne 7, 3) := by decide +kernel
theorem dX3_unitsIn_55 : decode cX3_unitsIn 55 = .ok (.iconst 3, 1) := by decide +kernel
theorem dX3_unitsIn_56 : decode cX3_unitsIn 56 = .ok (.goto 5, 3) := by decide +kernel
theorem dX3_unitsIn_59 : decode cX3_unitsIn 59 = .ok (.bipush 99, 2) := by decide +kernel
theorem dX3_unitsIn_61 : decode cX3_unitsIn 61 = .ok (.ireturn, 1) := by decide +kernel
theorem dX3_unitsIn_62 : decode cX3_unitsIn 62 = .ok (.lload_n 1, 1) := by decide +kernel
theorem dX3_unitsIn_63 : decode cX3_unitsIn 63 = .ok (.invokestatic 73, 3) := by decide +kernel
theorem dX3_unitsIn_66 : decode cX3_unitsIn 66 = .ok (.invokestatic 177, 3) := by decide +kernel
theorem dX3_unitsIn_69 : decode cX3_unitsIn 69 = .ok (.ireturn, 1) := by decide +kernel
theorem dX3_unitsIn_70 : decode cX3_unitsIn 70 = .ok (.iconst 1, 1) := by decide +kernel
theorem dX3_unitsIn_71 : decode cX3_unitsIn 71 = .ok (.iconst 2, 1) := by decide +kernel
theorem dX3_unitsIn_72 : decode cX3_unitsIn 72 = .ok (.lload_n 1, 1) := by decide +kernel
theorem dX3_unitsIn_73 : decode cX3_unitsIn 73 = .ok (.invokestatic 77, 3) := by decide +kernel
theorem dX3_unitsIn_76 : decode cX3_unitsIn 76 = .ok (.imul, 1) := by decide +kernel
theorem dX3_unitsIn_77 : decode cX3_unitsIn 77 = .ok (.iadd, 1) := by decide +kernel
theorem dX3_unitsIn_78 : decode cX3_unitsIn 78 = .ok (.ireturn, 1) := by decide +kernel
theorem dX3_unitsIn_79 : decode cX3_unitsIn 79 = .ok (.bipush 17, 2) := by decide +kernel
theorem dX3_unitsIn_81 : decode cX3_unitsIn 81 = .ok (.ireturn, 1) := by decide +kernel
theorem dX3_unitsByColours_0 : decode cX3_unitsByColours 0 = .ok (.iload_n 0, 1) := by decide +kernel
theorem dX3_unitsByColours_1 : decode cX3_unitsByColours 1 = .ok (.tableswitch 36 2 4 #[27, 30, 33], 27) := by decide +kernel
theorem dX3_unitsByColours_28 : decode cX3_unitsByColours 28 = .ok (.bipush 10, 2) := by decide +kernel
theorem dX3_unitsByColours_30 : decode cX3_unitsByColours 30 = .ok (.ireturn, 1) := by decide +kernel
theorem dX3_unitsByColours_31 : decode cX3_unitsByColours 31 = .ok (.bipush 15, 2) := by decide +kernel
theorem dX3_unitsByColours_33 : decode cX3_unitsByColours 33 = .ok (.ireturn, 1) := by decide +kernel
theorem dX3_unitsByColours_34 : decode cX3_unitsByColours 34 = .ok (.bipush 16, 2) := by decide +kernel
theorem dX3_unitsByColours_36 : decode cX3_unitsByColours 36 = .ok (.ireturn, 1) := by decide +kernel
theorem dX3_unitsByColours_37 : decode cX3_unitsByColours 37 = .ok (.bipush 99, 2) := by decide +kernel
theorem dX3_unitsByColours_39 : decode cX3_unitsByColours 39 = .ok (.ireturn, 1) := by decide +kernel
theorem dX3_cellAt_0 : decode cX3_cellAt 0 = .ok (.lload_n 0, 1) := by decide +kernel
theorem dX3_cellAt_1 : decode cX3_cellAt 1 = .ok (.iconst 4, 1) := by decide +kernel
theorem dX3_cellAt_2 : decode cX3_cellAt 2 = .ok (.iload_n 2, 1) := by decide +kernel
theorem dX3_cellAt_3 : decode cX3_cellAt 3 = .ok (.imul, 1) := by decide +kernel
theorem dX3_cellAt_4 : decode cX3_cellAt 4 = .ok (.lushr, 1) := by decide +kernel
theorem dX3_cellAt_5 : decode cX3_cellAt 5 = .ok (.ldc2_w 180, 3) := by decide +kernel
theorem dX3_cellAt_8 : decode cX3_cellAt 8 = .ok (.land, 1) := by decide +kernel
theorem dX3_cellAt_9 : decode cX3_cellAt 9 = .ok (.l2i, 1) := by decide +kernel
theorem dX3_cellAt_10 : decode cX3_cellAt 10 = .ok (.ireturn, 1) := by decide +kernel
set_option maxRecDepth 20000 in
theorem ggX3_countColours_X3_cellAt : GoodIn wsX3_countColours wsX3_cellAt := goodIn_r _ [4, 5] (by decide +kernel) (by decide +kernel)
set_option maxRecDepth 20000 in
theorem gX3_countColours_X3_cellAt : GoodIn wsX3_countColours (va_wsS RX3 182 yX3_cellAt wsX3_cellAt) := goodIn_app (goodIn_of _ (by decide +kernel)) ggX3_countColours_X3_cellAt
set_option maxRecDepth 20000 in
theorem ggX3_countColours_J6_bitCount_0f7a4 : GoodIn wsX3_countColours wsJ6_bitCount_0f7a4 := goodIn_r _ [9, 10, 11, 12] (by decide +kernel) (by decide +kernel)
set_option maxRecDepth 20000 in
theorem gX3_countColours_J6_bitCount_0f7a4 : GoodIn wsX3_countColours (va_wsS RX3 186 yJ6_bitCount_0f7a4 wsJ6_bitCount_0f7a4) := goodIn_app (goodIn_of _ (by decide +kernel)) ggX3_countColours_J6_bitCount_0f7a4
theorem dX3_countColours_0 : decode cX3_countColours 0 = .ok (.iconst 0, 1) := by decide +kernel
theorem dX3_countColours_1 : decode cX3_countColours 1 = .ok (.istore_n 2, 1) := by decide +kernel
theorem dX3_countColours_2 : decode cX3_countColours 2 = .ok (.iconst 0, 1) := by decide +kernel
theorem dX3_countColours_3 : decode cX3_countColours 3 = .ok (.istore_n 3, 1) := by decide +kernel
theorem dX3_countColours_4 : decode cX3_countColours 4 = .ok (.iload_n 3, 1) := by decide +kernel
theorem dX3_countColours_5 : decode cX3_countColours 5 = .ok (.bipush 16, 2) := by decide +kernel
theorem dX3_countColours_7 : decode cX3_countColours 7 = .ok (.if_icmp .ge 19, 3) := by decide +kernel
theorem dX3_countColours_10 : decode cX3_countColours 10 = .ok (.iload_n 2, 1) := by decide +kernel
theorem dX3_countColours_11 : decode cX3_countColours 11 = .ok (.iconst 1, 1) := by decide +kernel
theorem dX3_countColours_12 : decode cX3_countColours 12 = .ok (.lload_n 0, 1) := by decide +kernel
theorem dX3_countColours_13 : decode cX3_countColours 13 = .ok (.iload_n 3, 1) := by decide +kernel
theorem dX3_countColours_14 : decode cX3_countColours 14 = .ok (.invokestatic 182, 3) := by decide +kernel
theorem dX3_countColours_17 : decode cX3_countColours 17 = .ok (.ishl, 1) := by decide +kernel
theorem dX3_countColours_18 : decode cX3_countColours 18 = .ok (.ior, 1) := by decide +kernel
theorem dX3_countColours_19 : decode cX3_countColours 19 = .ok (.istore_n 2, 1) := by decide +kernel
theorem dX3_countColours_20 : decode cX3_countColours 20 = .ok (.iinc 3 1, 3) := by decide +kernel
theorem dX3_countColours_23 : decode cX3_countColours 23 = .ok (.goto (-19), 3) := by decide +kernel
theorem dX3_countColours_26 : decode cX3_countColours 26 = .ok (.iload_n 2, 1) := by decide +kernel
theorem dX3_countColours_27 : decode cX3_countColours 27 = .ok (.invokestatic 186, 3) := by decide +kernel
theorem dX3_countColours_30 : decode cX3_countColours 30 = .ok (.ireturn, 1) := by decide +kernel
set_option maxRecDepth 20000 in
theorem ggX3_countRuns_X3_cellAt : GoodIn wsX3_countRuns wsX3_cellAt := goodIn_r _ [4, 5] (by decide +kernel) (by decide +kernel)
set_option maxRecDepth 20000 in
theorem gX3_countRuns_X3_cellAt : GoodIn wsX3_countRuns (va_wsS RX3 182 yX3_cellAt wsX3_cellAt) := goodIn_app (goodIn_of _ (by decide +kernel)) ggX3_countRuns_X3_cellAt
theorem dX3_countRuns_0 : decode cX3_countRuns 0 = .ok (.iconst 1, 1) := by decide +kernel
theorem dX3_countRuns_1 : decode cX3_countRuns 1 = .ok (.istore_n 2, 1) := by decide +kernel
theorem dX3_countRuns_2 : decode cX3_countRuns 2 = .ok (.iconst 1, 1) := by decide +kernel
theorem dX3_countRuns_3 : decode cX3_countRuns 3 = .ok (.istore_n 3, 1) := by decide +kernel
theorem dX3_countRuns_4 : decode cX3_countRuns 4 = .ok (.iload_n 3, 1) := by decide +kernel
theorem dX3_countRuns_5 : decode cX3_countRuns 5 = .ok (.bipush 16, 2) := by decide +kernel
theorem dX3_countRuns_7 : decode cX3_countRuns 7 = .ok (.if_icmp .ge 27, 3) := by decide +kernel
theorem dX3_countRuns_10 : decode cX3_countRuns 10 = .ok (.lload_n 0, 1) := by decide +kernel
theorem dX3_countRuns_11 : decode cX3_countRuns 11 = .ok (.iload_n 3, 1) := by decide +kernel
theorem dX3_countRuns_12 : decode cX3_countRuns 12 = .ok (.invokestatic 182, 3) := by decide +kernel
theorem dX3_countRuns_15 : decode cX3_countRuns 15 = .ok (.lload_n 0, 1) := by decide +kernel
theorem dX3_countRuns_16 : decode cX3_countRuns 16 = .ok (.iload_n 3, 1) := by decide +kernel
theorem dX3_countRuns_17 : decode cX3_countRuns 17 = .ok (.iconst 1, 1) := by decide +kernel
theorem dX3_countRuns_18 : decode cX3_countRuns 18 = .ok (.isub, 1) := by decide +kernel
theorem dX3_countRuns_19 : decode cX3_countRuns 19 = .ok (.invokestatic 182, 3) := by decide +kernel
theorem dX3_countRuns_22 : decode cX3_countRuns 22 = .ok (.if_icmp .eq 6, 3) := by decide +kernel
theorem dX3_countRuns_25 : decode cX3_countRuns 25 = .ok (.iinc 2 1, 3) := by decide +kernel
theorem dX3_countRuns_28 : decode cX3_countRuns 28 = .ok (.iinc 3 1, 3) := by decide +kernel
theorem dX3_countRuns_31 : decode cX3_countRuns 31 = .ok (.goto (-27), 3) := by decide +kernel
theorem dX3_countRuns_34 : decode cX3_countRuns 34 = .ok (.iload_n 2, 1) := by decide +kernel
theorem dX3_countRuns_35 : decode cX3_countRuns 35 = .ok (.ireturn, 1) := by decide +kernel
set_option maxRecDepth 20000 in
theorem ggX3_countDifferent_X3_cellAt : GoodIn wsX3_countDifferent wsX3_cellAt := goodIn_r _ [4, 5] (by decide +kernel) (by decide +kernel)
set_option maxRecDepth 20000 in
theorem gX3_countDifferent_X3_cellAt : GoodIn wsX3_countDifferent (va_wsS RX3 182 yX3_cellAt wsX3_cellAt) := goodIn_app (goodIn_of _ (by decide +kernel)) ggX3_countDifferent_X3_cellAt
theorem dX3_countDifferent_0 : decode cX3_countDifferent 0 = .ok (.iconst 0, 1) := by decide +kernel
theorem dX3_countDifferent_1 : decode cX3_countDifferent 1 = .ok (.istore 4, 2) := by decide +kernel
theorem dX3_countDifferent_3 : decode cX3_countDifferent 3 = .ok (.iconst 0, 1) := by decide +kernel
theorem dX3_countDifferent_4 : decode cX3_countDifferent 4 = .ok (.istore 5, 2) := by decide +kernel
theorem dX3_countDifferent_6 : decode cX3_countDifferent 6 = .ok (.iload 5, 2) := by decide +kernel
theorem dX3_countDifferent_8 : decode cX3_countDifferent 8 = .ok (.bipush 16, 2) := by decide +kernel
theorem dX3_countDifferent_10 : decode cX3_countDifferent 10 = .ok (.if_icmp .ge 27, 3) := by decide +kernel
theorem dX3_countDifferent_13 : decode cX3_countDifferent 13 = .ok (.lload_n 0, 1) := by decide +kernel
theorem dX3_countDifferent_14 : decode cX3_countDifferent 14 = .ok (.iload 5, 2) := by decide +kernel
theorem dX3_countDifferent_16 : decode cX3_countDifferent 16 = .ok (.invokestatic 182, 3) := by decide +kernel
theorem dX3_countDifferent_19 : decode cX3_countDifferent 19 = .ok (.lload_n 2, 1) := by decide +kernel
theorem dX3_countDifferent_20 : decode cX3_countDifferent 20 = .ok (.iload 5, 2) := by decide +kernel
theorem dX3_countDifferent_22 : decode cX3_countDifferent 22 = .ok (.invokestatic 182, 3) := by decide +kernel
theorem dX3_countDifferent_25 : decode cX3_countDifferent 25 = .ok (.if_icmp .eq 6, 3) := by decide +kernel
theorem dX3_countDifferent_28 : decode cX3_countDifferent 28 = .ok (.iinc 4 1, 3) := by decide +kernel
theorem dX3_countDifferent_31 : decode cX3_countDifferent 31 = .ok (.iinc 5 1, 3) := by decide +kernel
theorem dX3_countDifferent_34 : decode cX3_countDifferent 34 = .ok (.goto (-28), 3) := by decide +kernel
theorem dX3_countDifferent_37 : decode cX3_countDifferent 37 = .ok (.iload 4, 2) := by decide +kernel
theorem dX3_countDifferent_39 : decode cX3_countDifferent 39 = .ok (.ireturn, 1) := by decide +kernel
end
section
theorem dX4_init_0 : decode cX4_init 0 = .ok (.aload_n 0, 1) := by decide +kernel
theorem dX4_init_1 : decode cX4_init 1 = .ok (.invokespecial 1, 3) := by decide +kernel
theorem dX4_init_4 : decode cX4_init 4 = .ok (.aload_n 0, 1) := by decide +kernel
theorem dX4_init_5 : decode cX4_init 5 = .ok (.sipush 192, 3) := by decide +kernel
theorem dX4_init_8 : decode cX4_init 8 = .ok (.newarray .int, 2) := by decide +kernel
theorem dX4_init_10 : decode cX4_init 10 = .ok (.putfield 7, 3) := by decide +kernel
theorem dX4_init_13 : decode cX4_init 13 = .ok (.aload_n 0, 1) := by decide +kernel
theorem dX4_init_14 : decode cX4_init 14 = .ok (.sipush 192, 3) := by decide +kernel
theorem dX4_init_17 : decode cX4_init 17 = .ok (.newarray .int, 2) := by decide +kernel
theorem dX4_init_19 : decode cX4_init 19 = .ok (.putfield 13, 3) := by decide +kernel
theorem dX4_init_22 : decode cX4_init 22 = .ok (.aload_n 0, 1) := by decide +kernel
theorem dX4_init_23 : decode cX4_init 23 = .ok (.iconst 2, 1) := by decide +kernel
theorem dX4_init_24 : decode cX4_init 24 = .ok (.newarray .boolean, 2) := by decide +kernel
theorem dX4_init_26 : decode cX4_init 26 = .ok (.putfield 16, 3) := by decide +kernel
theorem dX4_init_29 : decode cX4_init 29 = .ok (.aload_n 0, 1) := by decide +kernel
theorem dX4_init_30 : decode cX4_init 30 = .ok (.sipush 384, 3) := by decide +kernel
theorem dX4_init_33 : decode cX4_init 33 = .ok (.newarray .int, 2) := by decide +kernel
theorem dX4_init_35 : decode cX4_init 35 = .ok (.putfield 20, 3) := by decide +kernel
theorem dX4_init_38 : decode cX4_init 38 = .ok (.aload_n 0, 1) := by decide +kernel
theorem dX4_init_39 : decode cX4_init 39 = .ok (.sipush 224, 3) := by decide +kernel
theorem dX4_init_42 : decode cX4_init 42 = .ok (.newarray .int, 2) := by decide +kernel
theorem dX4_init_44 : decode cX4_init 44 = .ok (.putfield 23, 3) := by decide +kernel
theorem dX4_init_47 : decode cX4_init 47 = .ok (.aload_n 0, 1) := by decide +kernel
theorem dX4_init_48 : decode cX4_init 48 = .ok (.iconst 2, 1) := by decide +kernel
theorem dX4_init_49 : decode cX4_init 49 = .ok (.newarray .int, 2) := by decide +kernel
theorem dX4_init_51 : decode cX4_init 51 = .ok (.putfield 26, 3) := by decide +kernel
theorem dX4_init_54 : decode cX4_init 54 = .ok (.aload_n 0, 1) := by decide +kernel
theorem dX4_init_55 : decode cX4_init 55 = .ok (.sipush 224, 3) := by decide +kernel
theorem dX4_init_58 : decode cX4_init 58 = .ok (.newarray .int, 2) := by decide +kernel
theorem dX4_init_60 : decode cX4_init 60 = .ok (.putfield 29, 3) := by decide +kernel
theorem dX4_init_63 : decode cX4_init 63 = .ok (.aload_n 0, 1) := by decide +kernel
theorem dX4_init_64 : decode cX4_init 64 = .ok (.iconst 2, 1) := by decide +kernel
theorem dX4_init_65 : decode cX4_init 65 = .ok (.newarray .int, 2) := by decide +kernel
theorem dX4_init_67 : decode cX4_init 67 = .ok (.putfield 32, 3) := by decide +kernel
theorem dX4_init_70 : decode cX4_init 70 = .ok (.aload_n 0, 1) := by decide +kernel
theorem dX4_init_71 : decode cX4_init 71 = .ok (.bipush 24, 2) := by decide +kernel
theorem dX4_init_73 : decode cX4_init 73 = .ok (.newarray .int, 2) := by decide +kernel
theorem dX4_init_75 : decode cX4_init 75 = .ok (.putfield 35, 3) := by decide +kernel
theorem dX4_init_78 : decode cX4_init 78 = .ok (.aload_n 0, 1) := by decide +kernel
theorem dX4_init_79 : decode cX4_init 79 = .ok (.iconst 2, 1) := by decide +kernel
theorem dX4_init_80 : decode cX4_init 80 = .ok (.newarray .int, 2) := by decide +kernel
theorem dX4_init_82 : decode cX4_init 82 = .ok (.putfield 38, 3) := by decide +kernel
theorem dX4_init_85 : decode cX4_init 85 = .ok (.aload_n 0, 1) := by decide +kernel
theorem dX4_init_86 : decode cX4_init 86 = .ok (.bipush 24, 2) := by decide +kernel
theorem dX4_init_88 : decode cX4_init 88 = .ok (.newarray .int, 2) := by decide +kernel
theorem dX4_init_90 : decode cX4_init 90 = .ok (.putfield 41, 3) := by decide +kernel
theorem dX4_init_93 : decode cX4_init 93 = .ok (.aload_n 0, 1) := by decide +kernel
theorem dX4_init_94 : decode cX4_init 94 = .ok (.sipush 384, 3) := by decide +kernel
theorem dX4_init_97 : decode cX4_init 97 = .ok (.newarray .int, 2) := by decide +kernel
theorem dX4_init_99 : decode cX4_init 99 = .ok (.putfield 44, 3) := by decide +kernel
theorem dX4_init_102 : decode cX4_init 102 = .ok (.aload_n 0, 1) := by decide +kernel
theorem dX4_init_103 : decode cX4_init 103 = .ok (.iconst 2, 1) := by decide +kernel
theorem dX4_init_104 : decode cX4_init 104 = .ok (.newarray .int, 2) := by decide +kernel
theorem dX4_init_106 : decode cX4_init 106 = .ok (.putfield 47, 3) := by decide +kernel
theorem dX4_init_109 : decode cX4_init 109 = .ok (.aload_n 0, 1) := by decide +kernel
theorem dX4_init_110 : decode cX4_init 110 = .ok (.iconst 5, 1) := by decide +kernel
theorem dX4_init_111 : decode cX4_init 111 = .ok (.newarray .int, 2) := by decide +kernel
theorem dX4_init_113 : decode cX4_init 113 = .ok (.putfield 50, 3) := by decide +kernel
theorem dX4_init_116 : decode cX4_init 116 = .ok (.aload_n 0, 1) := by decide +kernel
theorem dX4_init_117 : decode cX4_init 117 = .ok (.bipush 16, 2) := by decide +kernel
theorem dX4_init_119 : decode cX4_init 119 = .ok (.newarray .int, 2) := by decide +kernel
theorem dX4_init_121 : decode cX4_init 121 = .ok (.putfield 53, 3) := by decide +kernel
theorem dX4_init_124 : decode cX4_init 124 = .ok (.return_, 1) := by decide +kernel
theorem dX4_thrown_0 : decode cX4_thrown 0 = .ok (.aload_n 0, 1) := by decide +kernel
theorem dX4_thrown_1 : decode cX4_thrown 1 = .ok (.getfield 56, 3) := by decide +kernel
theorem dX4_thrown_4 : decode cX4_thrown 4 = .ok (.ireturn, 1) := by decide +kernel
theorem dX4_goesWell_0 : decode cX4_goesWell 0 = .ok (.aload_n 0, 1) := by decide +kernel
theorem dX4_goesWell_1 : decode cX4_goesWell 1 = .ok (.iload_n 1, 1) := by decide +kernel
theorem dX4_goesWell_2 : decode cX4_goesWell 2 = .ok (.putfield 56, 3) := by decide +kernel
theorem dX4_goesWell_5 : decode cX4_goesWell 5 = .ok (.iload_n 1, 1) := by decide +kernel
theorem dX4_goesWell_6 : decode cX4_goesWell 6 = .ok (.ifCond .ne 7, 3) := by decide +kernel
theorem dX4_goesWell_9 : decode cX4_goesWell 9 = .ok (.iconst 1, 1) := by decide +kernel
theorem dX4_goesWell_10 : decode cX4_goesWell 10 = .ok (.goto 4, 3) := by decide +kernel
theorem dX4_goesWell_13 : decode cX4_goesWell 13 = .ok (.iconst 0, 1) := by decide +kernel
theorem dX4_goesWell_14 : decode cX4_goesWell 14 = .ok (.ireturn, 1) := by decide +kernel
theorem dX4_in_0 : decode cX4_in 0 = .ok (.iload_n 0, 1) := by decide +kernel
theorem dX4_in_1 : decode cX4_in 1 = .ok (.iload_n 1, 1) := by decide +kernel
theorem dX4_in_2 : decode cX4_in 2 = .ok (.if_icmp .lt 12, 3) := by decide +kernel
theorem dX4_in_5 : decode cX4_in 5 = .ok (.iload_n 0, 1) := by decide +kernel
theorem dX4_in_6 : decode cX4_in 6 = .ok (.iload_n 2, 1) := by decide +kernel
theorem dX4_in_7 : decode cX4_in 7 = .ok (.if_icmp .gt 7, 3) := by decide +kernel
theorem dX4_in_10 : decode cX4_in 10 = .ok (.iconst 1, 1) := by decide +kernel
theorem dX4_in_11 : decode cX4_in 11 = .ok (.goto 4, 3) := by decide +kernel
theorem dX4_in_14 : decode cX4_in 14 = .ok (.iconst 0, 1) := by decide +kernel
theorem dX4_in_15 : decode cX4_in 15 = .ok (.ireturn, 1) := by decide +kernel
set_option maxRecDepth 20000 in
theorem ggX4_isClient_X4_in : GoodIn wsX4_isClient wsX4_in := goodIn_r _ [4] (by decide +kernel) (by decide +kernel)
set_option maxRecDepth 20000 in
theorem gX4_isClient_X4_in : GoodIn wsX4_isClient (va_wsS RX4 60 yX4_in wsX4_in) := goodIn_app (goodIn_of _ (by decide +kernel)) ggX4_isClient_X4_in
theorem dX4_isClient_0 : decode cX4_isClient 0 = .ok (.iload_n 0, 1) := by decide +kernel
theorem dX4_isClient_1 : decode cX4_isClient 1 = .ok (.iconst 0, 1) := by decide +kernel
theorem dX4_isClient_2 : decode cX4_isClient 2 = .ok (.iconst 1, 1) := by decide +kernel
theorem dX4_isClient_3 : decode cX4_isClient 3 = .ok (.invokestatic 60, 3) := by decide +kernel
theorem dX4_isClient_6 : decode cX4_isClient 6 = .ok (.ireturn, 1) := by decide +kernel
set_option maxRecDepth 20000 in
theorem ggX4_isTile_X4_in : GoodIn wsX4_isTile wsX4_in := goodIn_r _ [4] (by decide +kernel) (by decide +kernel)
set_option maxRecDepth 20000 in
theorem gX4_isTile_X4_in : GoodIn wsX4_isTile (va_wsS RX4 60 yX4_in wsX4_in) := goodIn_app (goodIn_of _ (by decide +kernel)) ggX4_isTile_X4_in
theorem dX4_isTile_0 : decode cX4_isTile 0 = .ok (.iload_n 0, 1) := by decide +kernel
theorem dX4_isTile_1 : decode cX4_isTile 1 = .ok (.iconst 0, 1) := by decide +kernel
theorem dX4_isTile_2 : decode cX4_isTile 2 = .ok (.bipush 11, 2) := by decide +kernel
theorem dX4_isTile_4 : decode cX4_isTile 4 = .ok (.invokestatic 60, 3) := by decide +kernel
theorem dX4_isTile_7 : decode cX4_isTile 7 = .ok (.ireturn, 1) := by decide +kernel
set_option maxRecDepth 20000 in
theorem ggX4_isCell_X4_in : GoodIn wsX4_isCell wsX4_in := goodIn_r _ [4] (by decide +kernel) (by decide +kernel)
set_option maxRecDepth 20000 in
theorem gX4_isCell_X4_in : GoodIn wsX4_isCell (va_wsS RX4 60 yX4_in wsX4_in) := goodIn_app (goodIn_of _ (by decide +kernel)) ggX4_isCell_X4_in
theorem dX4_isCell_0 : decode cX4_isCell 0 = .ok (.iload_n 0, 1) := by decide +kernel
theorem dX4_isCell_1 : decode cX4_isCell 1 = .ok (.iconst 0, 1) := by decide +kernel
theorem dX4_isCell_2 : decode cX4_isCell 2 = .ok (.bipush 15, 2) := by decide +kernel
theorem dX4_isCell_4 : decode cX4_isCell 4 = .ok (.invokestatic 60, 3) := by decide +kernel
theorem dX4_isCell_7 : decode cX4_isCell 7 = .ok (.ifCond .eq 17, 3) := by decide +kernel
theorem dX4_isCell_10 : decode cX4_isCell 10 = .ok (.iload_n 1, 1) := by decide +kernel
theorem dX4_isCell_11 : decode cX4_isCell 11 = .ok (.iconst 0, 1) := by decide +kernel
theorem dX4_isCell_12 : decode cX4_isCell 12 = .ok (.bipush 11, 2) := by decide +kernel
theorem dX4_isCell_14 : decode cX4_isCell 14 = .ok (.invokestatic 60, 3) := by decide +kernel
theorem dX4_isCell_17 : decode cX4_isCell 17 = .ok (.ifCond .eq 7, 3) := by decide +kernel
theorem dX4_isCell_20 : decode cX4_isCell 20 = .ok (.iconst 1, 1) := by decide +kernel
theorem dX4_isCell_21 : decode cX4_isCell 21 = .ok (.goto 4, 3) := by decide +kernel
theorem dX4_isCell_24 : decode cX4_isCell 24 = .ok (.iconst 0, 1) := by decide +kernel
theorem dX4_isCell_25 : decode cX4_isCell 25 = .ok (.ireturn, 1) := by decide +kernel
theorem dX4_cellOf_0 : decode cX4_cellOf 0 = .ok (.bipush 16, 2) := by decide +kernel
theorem dX4_cellOf_2 : decode cX4_cellOf 2 = .ok (.iconst 4, 1) := by decide +kernel
theorem dX4_cellOf_3 : decode cX4_cellOf 3 = .ok (.iload_n 0, 1) := by decide +kernel
theorem dX4_cellOf_4 : decode cX4_cellOf 4 = .ok (.iconst 4, 1) := by decide +kernel
theorem dX4_cellOf_5 : decode cX4_cellOf 5 = .ok (.idiv, 1) := by decide +kernel
theorem dX4_cellOf_6 : decode cX4_cellOf 6 = .ok (.imul, 1) := by decide +kernel
theorem dX4_cellOf_7 : decode cX4_cellOf 7 = .ok (.iload_n 1, 1) := by decide +kernel
theorem dX4_cellOf_8 : decode cX4_cellOf 8 = .ok (.iconst 4, 1) := by decide +kernel
theorem dX4_cellOf_9 : decode cX4_cellOf 9 = .ok (.idiv, 1) := by decide +kernel
theorem dX4_cellOf_10 : decode cX4_cellOf 10 = .ok (.iadd, 1) := by decide +kernel
theorem dX4_cellOf_11 : decode cX4_cellOf 11 = .ok (.imul, 1) := by decide +kernel
theorem dX4_cellOf_12 : decode cX4_cellOf 12 = .ok (.iconst 4, 1) := by decide +kernel
theorem dX4_cellOf_13 : decode cX4_cellOf 13 = .ok (.iload_n 0, 1) := by decide +kernel
theorem dX4_cellOf_14 : decode cX4_cellOf 14 = .ok (.iconst 4, 1) := by decide +kernel
theorem dX4_cellOf_15 : decode cX4_cellOf 15 = .ok (.irem, 1) := by decide +kernel
theorem dX4_cellOf_16 : decode cX4_cellOf 16 = .ok (.imul, 1) := by decide +kernel
theorem dX4_cellOf_17 : decode cX4_cellOf 17 = .ok (.iadd, 1) := by decide +kernel
theorem dX4_cellOf_18 : decode cX4_cellOf 18 = .ok (.iload_n 1, 1) := by decide +kernel
theorem dX4_cellOf_19 : decode cX4_cellOf 19 = .ok (.iconst 4, 1) := by decide +kernel
theorem dX4_cellOf_20 : decode cX4_cellOf 20 = .ok (.irem, 1) := by decide +kernel
theorem dX4_cellOf_21 : decode cX4_cellOf 21 = .ok (.iadd, 1) := by decide +kernel
theorem dX4_cellOf_22 : decode cX4_cellOf 22 = .ok (.ireturn, 1) := by decide +kernel
set_option maxRecDepth 20000 in
theorem ggX4_isBox_X4_isCell : GoodIn wsX4_isBox wsX4_isCell := goodIn_r _ [4, 5, 6, 3, 7] (by decide +kernel) (by decide +kernel)
set_option maxRecDepth 20000 in
theorem gX4_isBox_X4_isCell : GoodIn wsX4_isBox (va_wsS RX4 64 yX4_isCell wsX4_isCell) := goodIn_app (goodIn_of _ (by decide +kernel)) ggX4_isBox_X4_isCell
set_option maxRecDepth 20000 in
theorem ggX4_isBox_X4_in : GoodIn wsX4_isBox wsX4_in := goodIn_r _ [7] (by decide +kernel) (by decide +kernel)
set_option maxRecDepth 20000 in
theorem gX4_isBox_X4_in : GoodIn wsX4_isBox (va_wsS RX4 60 yX4_in wsX4_in) := goodIn_app (goodIn_of _ (by decide +kernel)) ggX4_isBox_X4_in
theorem dX4_isBox_0 : decode cX4_isBox 0 = .ok (.iload_n 0, 1) := by decide +kernel
theorem dX4_isBox_1 : decode cX4_isBox 1 = .ok (.iload_n 1, 1) := by decide +kernel
theorem dX4_isBox_2 : decode cX4_isBox 2 = .ok (.invokestatic 64, 3) := by decide +kernel
theorem dX4_isBox_5 : decode cX4_isBox 5 = .ok (.ifCond .eq 31, 3) := by decide +kernel
theorem dX4_isBox_8 : decode cX4_isBox 8 = .ok (.iload_n 2, 1) := by decide +kernel
theorem dX4_isBox_9 : decode cX4_isBox 9 = .ok (.iconst 1, 1) := by decide +kernel
theorem dX4_isBox_10 : decode cX4_isBox 10 = .ok (.bipush 16, 2) := by decide +kernel
theorem dX4_isBox_12 : decode cX4_isBox 12 = .ok (.iload_n 0, 1) := by decide +kernel
theorem dX4_isBox_13 : decode cX4_isBox 13 = .ok (.isub, 1) := by decide +kernel
theorem dX4_isBox_14 : decode cX4_isBox 14 = .ok (.invokestatic 60, 3) := by decide +kernel
theorem dX4_isBox_17 : decode cX4_isBox 17 = .ok (.ifCond .eq 19, 3) := by decide +kernel
theorem dX4_isBox_20 : decode cX4_isBox 20 = .ok (.iload_n 3, 1) := by decide +kernel
theorem dX4_isBox_21 : decode cX4_isBox 21 = .ok (.iconst 1, 1) := by decide +kernel
theorem dX4_isBox_22 : decode cX4_isBox 22 = .ok (.bipush 12, 2) := by decide +kernel
theorem dX4_isBox_24 : decode cX4_isBox 24 = .ok (.iload_n 1, 1) := by decide +kernel
theorem dX4_isBox_25 : decode cX4_isBox 25 = .ok (.isub, 1) := by decide +kernel
theorem dX4_isBox_26 : decode cX4_isBox 26 = .ok (.invokestatic 60, 3) := by decide +kernel
theorem dX4_isBox_29 : decode cX4_isBox 29 = .ok (.ifCond .eq 7, 3) := by decide +kernel
theorem dX4_isBox_32 : decode cX4_isBox 32 = .ok (.iconst 1, 1) := by decide +kernel
theorem dX4_isBox_33 : decode cX4_isBox 33 = .ok (.goto 4, 3) := by decide +kernel
theorem dX4_isBox_36 : decode cX4_isBox 36 = .ok (.iconst 0, 1) := by decide +kernel
theorem dX4_isBox_37 : decode cX4_isBox 37 = .ok (.ireturn, 1) := by decide +kernel
theorem dX4_keep_0 : decode cX4_keep 0 = .ok (.iconst 0, 1) := by decide +kernel
theorem dX4_keep_1 : decode cX4_keep 1 = .ok (.istore_n 1, 1) := by decide +kernel
theorem dX4_keep_2 : decode cX4_keep 2 = .ok (.iload_n 1, 1) := by decide +kernel
theorem dX4_keep_3 : decode cX4_keep 3 = .ok (.sipush 192, 3) := by decide +kernel
theorem dX4_keep_6 : decode cX4_keep 6 = .ok (.if_icmp .ge 21, 3) := by decide +kernel
theorem dX4_keep_9 : decode cX4_keep 9 = .ok (.aload_n 0, 1) := by decide +kernel
theorem dX4_keep_10 : decode cX4_keep 10 = .ok (.getfield 13, 3) := by decide +kernel
theorem dX4_keep_13 : decode cX4_keep 13 = .ok (.iload_n 1, 1) := by decide +kernel
theorem dX4_keep_14 : decode cX4_keep 14 = .ok (.aload_n 0, 1) := by decide +kernel
theorem dX4_keep_15 : decode cX4_keep 15 = .ok (.getfield 7, 3) := by decide +kernel
theorem dX4_keep_18 : decode cX4_keep 18 = .ok (.iload_n 1, 1) := by decide +kernel
theorem dX4_keep_19 : decode cX4_keep 19 = .ok (.iaload, 1) := by decide +kernel
theorem dX4_keep_20 : decode cX4_keep 20 = .ok (.iastore, 1) := by decide +kernel
theorem dX4_keep_21 : decode cX4_keep 21 = .ok (.iinc 1 1, 3) := by decide +kernel
theorem dX4_keep_24 : decode cX4_keep 24 = .ok (.goto (-22), 3) := by decide +kernel
theorem dX4_keep_27 : decode cX4_keep 27 = .ok (.return_, 1) := by decide +kernel
theorem dX4_soil_0 : decode cX4_soil 0 = .ok (.iconst 0, 1) := by decide +kernel
theorem dX4_soil_1 : decode cX4_soil 1 = .ok (.istore_n 3, 1) := by decide +kernel
theorem dX4_soil_2 : decode cX4_soil 2 = .ok (.iconst 0, 1) := by decide +kernel
theorem dX4_soil_3 : decode cX4_soil 3 = .ok (.istore 4, 2) := by decide +kernel
theorem dX4_soil_5 : decode cX4_soil 5 = .ok (.iload 4, 2) := by decide +kernel
theorem dX4_soil_7 : decode cX4_soil 7 = .ok (.aload_n 0, 1) := by decide +kernel
theorem dX4_soil_8 : decode cX4_soil 8 = .ok (.getfield 38, 3) := by decide +kernel
theorem dX4_soil_11 : decode cX4_soil 11 = .ok (.iload_n 1, 1) := by decide +kernel
theorem dX4_soil_12 : decode cX4_soil 12 = .ok (.iaload, 1) := by decide +kernel
theorem dX4_soil_13 : decode cX4_soil 13 = .ok (.if_icmp .ge 35, 3) := by decide +kernel
theorem dX4_soil_16 : decode cX4_soil 16 = .ok (.iload_n 3, 1) := by decide +kernel
theorem dX4_soil_17 : decode cX4_soil 17 = .ok (.ifCond .ne 19, 3) := by decide +kernel
theorem dX4_soil_20 : decode cX4_soil 20 = .ok (.aload_n 0, 1) := by decide +kernel
theorem dX4_soil_21 : decode cX4_soil 21 = .ok (.getfield 35, 3) := by decide +kernel
theorem dX4_soil_24 : decode cX4_soil 24 = .ok (.bipush 12, 2) := by decide +kernel
theorem dX4_soil_26 : decode cX4_soil 26 = .ok (.iload_n 1, 1) := by decide +kernel
theorem dX4_soil_27 : decode cX4_soil 27 = .ok (.imul, 1) := by decide +kernel
theorem dX4_soil_28 : decode cX4_soil 28 = .ok (.iload 4, 2) := by decide +kernel
theorem dX4_soil_30 : decode cX4_soil 30 = .ok (.iadd, 1) := by decide +kernel
theorem dX4_soil_31 : decode cX4_soil 31 = .ok (.iaload, 1) := by decide +kernel
theorem dX4_soil_32 : decode cX4_soil 32 = .ok (.iload_n 2, 1) := by decide +kernel
theorem dX4_soil_33 : decode cX4_soil 33 = .ok (.if_icmp .ne 7, 3) := by decide +kernel
theorem dX4_soil_36 : decode cX4_soil 36 = .ok (.iconst 1, 1) := by decide +kernel
theorem dX4_soil_37 : decode cX4_soil 37 = .ok (.goto 4, 3) := by decide +kernel
theorem dX4_soil_40 : decode cX4_soil 40 = .ok (.iconst 0, 1) := by decide +kernel
theorem dX4_soil_41 : decode cX4_soil 41 = .ok (.istore_n 3, 1) := by decide +kernel
theorem dX4_soil_42 : decode cX4_soil 42 = .ok (.iinc 4 1, 3) := by decide +kernel
theorem dX4_soil_45 : decode cX4_soil 45 = .ok (.goto (-40), 3) := by decide +kernel
theorem dX4_soil_48 : decode cX4_soil 48 = .ok (.iload_n 3, 1) := by decide +kernel
theorem dX4_soil_49 : decode cX4_soil 49 = .ok (.ifCond .ne 30, 3) := by decide +kernel
theorem dX4_soil_52 : decode cX4_soil 52 = .ok (.aload_n 0, 1) := by decide +kernel
theorem dX4_soil_53 : decode cX4_soil 53 = .ok (.getfield 35, 3) := by decide +kernel
theorem dX4_soil_56 : decode cX4_soil 56 = .ok (.bipush 12, 2) := by decide +kernel
theorem dX4_soil_58 : decode cX4_soil 58 = .ok (.iload_n 1, 1) := by decide +kernel
theorem dX4_soil_59 : decode cX4_soil 59 = .ok (.imul, 1) := by decide +kernel
theorem dX4_soil_60 : decode cX4_soil 60 = .ok (.aload_n 0, 1) := by decide +kernel
theorem dX4_soil_61 : decode cX4_soil 61 = .ok (.getfield 38, 3) := by decide +kernel
theorem dX4_soil_64 : decode cX4_soil 64 = .ok (.iload_n 1, 1) := by decide +kernel
theorem dX4_soil_65 : decode cX4_soil 65 = .ok (.iaload, 1) := by decide +kernel
theorem dX4_soil_66 : decode cX4_soil 66 = .ok (.iadd, 1) := by decide +kernel
theorem dX4_soil_67 : decode cX4_soil 67 = .ok (.iload_n 2, 1) := by decide +kernel
theorem dX4_soil_68 : decode cX4_soil 68 = .ok (.iastore, 1) := by decide +kernel
theorem dX4_soil_69 : decode cX4_soil 69 = .ok (.aload_n 0, 1) := by decide +kernel
theorem dX4_soil_70 : decode cX4_soil 70 = .ok (.getfield 38, 3) := by decide +kernel
theorem dX4_soil_73 : decode cX4_soil 73 = .ok (.iload_n 1, 1) := by decide +kernel
theorem dX4_soil_74 : decode cX4_soil 74 = .ok (.dup2, 1) := by decide +kernel
theorem dX4_soil_75 : decode cX4_soil 75 = .ok (.iaload, 1) := by decide +kernel
theorem dX4_soil_76 : decode cX4_soil 76 = .ok (.iconst 1, 1) := by decide +kernel
theorem dX4_soil_77 : decode cX4_soil 77 = .ok (.iadd, 1) := by decide +kernel
theorem dX4_soil_78 : decode cX4_soil 78 = .ok (.iastore, 1) := by decide +kernel
theorem dX4_soil_79 : decode cX4_soil 79 = .ok (.return_, 1) := by decide +kernel
set_option maxRecDepth 20000 in
theorem ggX4_settle_X4_cellOf : GoodIn wsX4_settle wsX4_cellOf := goodIn_r _ [7] (by decide +kernel) (by decide +kernel)
set_option maxRecDepth 20000 in
theorem gX4_settle_X4_cellOf : GoodIn wsX4_settle (va_wsS RX4 68 yX4_cellOf wsX4_cellOf) := goodIn_app (goodIn_of _ (by decide +kernel)) ggX4_settle_X4_cellOf
set_option maxRecDepth 20000 in
theorem ggX4_settle_X4_soil : GoodIn wsX4_settle wsX4_soil := goodIn_r _ [11, 12, 13, 14, 15, 16, 17, 18, 19, 20, 21, 22, 23, 24, 25, 26, 27, 28, 29, 30] (by decide +kernel) (by decide +kernel)
set_option maxRecDepth 20000 in
theorem gX4_settle_X4_soil : GoodIn wsX4_settle (wsV RX4 72 RX4 yX4_soil wsX4_soil) := goodIn_app (goodIn_of _ (by decide +kernel)) ggX4_settle_X4_soil
theorem dX4_settle_0 : decode cX4_settle 0 = .ok (.iconst 0, 1) := by decide +kernel
theorem dX4_settle_1 : decode cX4_settle 1 = .ok (.istore_n 1, 1) := by decide +kernel
theorem dX4_settle_2 : decode cX4_settle 2 = .ok (.iconst 0, 1) := by decide +kernel
theorem dX4_settle_3 : decode cX4_settle 3 = .ok (.istore_n 2, 1) := by decide +kernel
theorem dX4_settle_4 : decode cX4_settle 4 = .ok (.iload_n 2, 1) := by decide +kernel
theorem dX4_settle_5 : decode cX4_settle 5 = .ok (.bipush 12, 2) := by decide +kernel
theorem dX4_settle_7 : decode cX4_settle 7 = .ok (.if_icmp .ge 123, 3) := by decide +kernel
theorem dX4_settle_10 : decode cX4_settle 10 = .ok (.iconst 0, 1) := by decide +kernel
theorem dX4_settle_11 : decode cX4_settle 11 = .ok (.istore_n 3, 1) := by decide +kernel
theorem dX4_settle_12 : decode cX4_settle 12 = .ok (.iconst 0, 1) := by decide +kernel
theorem dX4_settle_13 : decode cX4_settle 13 = .ok (.istore 4, 2) := by decide +kernel
theorem dX4_settle_15 : decode cX4_settle 15 = .ok (.iload 4, 2) := by decide +kernel
theorem dX4_settle_17 : decode cX4_settle 17 = .ok (.bipush 16, 2) := by decide +kernel
theorem dX4_settle_19 : decode cX4_settle 19 = .ok (.if_icmp .ge 69, 3) := by decide +kernel
theorem dX4_settle_22 : decode cX4_settle 22 = .ok (.aload_n 0, 1) := by decide +kernel
theorem dX4_settle_23 : decode cX4_settle 23 = .ok (.getfield 7, 3) := by decide +kernel
theorem dX4_settle_26 : decode cX4_settle 26 = .ok (.iload_n 2, 1) := by decide +kernel
theorem dX4_settle_27 : decode cX4_settle 27 = .ok (.iload 4, 2) := by decide +kernel
theorem dX4_settle_29 : decode cX4_settle 29 = .ok (.invokestatic 68, 3) := by decide +kernel
theorem dX4_settle_32 : decode cX4_settle 32 = .ok (.iaload, 1) := by decide +kernel
theorem dX4_settle_33 : decode cX4_settle 33 = .ok (.aload_n 0, 1) := by decide +kernel
theorem dX4_settle_34 : decode cX4_settle 34 = .ok (.getfield 13, 3) := by decide +kernel
theorem dX4_settle_37 : decode cX4_settle 37 = .ok (.iload_n 2, 1) := by decide +kernel
theorem dX4_settle_38 : decode cX4_settle 38 = .ok (.iload 4, 2) := by decide +kernel
theorem dX4_settle_40 : decode cX4_settle 40 = .ok (.invokestatic 68, 3) := by decide +kernel
theorem dX4_settle_43 : decode cX4_settle 43 = .ok (.iaload, 1) := by decide +kernel
theorem dX4_settle_44 : decode cX4_settle 44 = .ok (.if_icmp .eq 7, 3) := by decide +kernel
theorem dX4_settle_47 : decode cX4_settle 47 = .ok (.iconst 1, 1) := by decide +kernel
theorem dX4_settle_48 : decode cX4_settle 48 = .ok (.goto 4, 3) := by decide +kernel
theorem dX4_settle_51 : decode cX4_settle 51 = .ok (.iconst 0, 1) := by decide +kernel
theorem dX4_settle_52 : decode cX4_settle 52 = .ok (.istore 5, 2) := by decide +kernel
theorem dX4_settle_54 : decode cX4_settle 54 = .ok (.iload_n 3, 1) := by decide +kernel
theorem dX4_settle_55 : decode cX4_settle 55 = .ok (.ifCond .ne 8, 3) := by decide +kernel
theorem dX4_settle_58 : decode cX4_settle 58 = .ok (.iload 5, 2) := by decide +kernel
theorem dX4_settle_60 : decode cX4_settle 60 = .ok (.ifCond .eq 7, 3) := by decide +kernel
theorem dX4_settle_63 : decode cX4_settle 63 = .ok (.iconst 1, 1) := by decide +kernel
theorem dX4_settle_64 : decode cX4_settle 64 = .ok (.goto 4, 3) := by decide +kernel
theorem dX4_settle_67 : decode cX4_settle 67 = .ok (.iconst 0, 1) := by decide +kernel
theorem dX4_settle_68 : decode cX4_settle 68 = .ok (.istore_n 3, 1) := by decide +kernel
theorem dX4_settle_69 : decode cX4_settle 69 = .ok (.iload_n 1, 1) := by decide +kernel
theorem dX4_settle_70 : decode cX4_settle 70 = .ok (.iload 5, 2) := by decide +kernel
theorem dX4_settle_72 : decode cX4_settle 72 = .ok (.ifCond .eq 7, 3) := by decide +kernel
theorem dX4_settle_75 : decode cX4_settle 75 = .ok (.iconst 1, 1) := by decide +kernel
theorem dX4_settle_76 : decode cX4_settle 76 = .ok (.goto 4, 3) := by decide +kernel
theorem dX4_settle_79 : decode cX4_settle 79 = .ok (.iconst 0, 1) := by decide +kernel
theorem dX4_settle_80 : decode cX4_settle 80 = .ok (.iadd, 1) := by decide +kernel
theorem dX4_settle_81 : decode cX4_settle 81 = .ok (.istore_n 1, 1) := by decide +kernel
theorem dX4_settle_82 : decode cX4_settle 82 = .ok (.iinc 4 1, 3) := by decide +kernel
theorem dX4_settle_85 : decode cX4_settle 85 = .ok (.goto (-70), 3) := by decide +kernel
theorem dX4_settle_88 : decode cX4_settle 88 = .ok (.iconst 0, 1) := by decide +kernel
theorem dX4_settle_89 : decode cX4_settle 89 = .ok (.istore 4, 2) := by decide +kernel
theorem dX4_settle_91 : decode cX4_settle 91 = .ok (.iload 4, 2) := by decide +kernel
theorem dX4_settle_93 : decode cX4_settle 93 = .ok (.iconst 2, 1) := by decide +kernel
theorem dX4_settle_94 : decode cX4_settle 94 = .ok (.if_icmp .ge 30, 3) := by decide +kernel
theorem dX4_settle_97 : decode cX4_settle 97 = .ok (.iload_n 3, 1) := by decide +kernel
theorem dX4_settle_98 : decode cX4_settle 98 = .ok (.ifCond .eq 20, 3) := by decide +kernel
theorem dX4_settle_101 : decode cX4_settle 101 = .ok (.aload_n 0, 1) := by decide +kernel
theorem dX4_settle_102 : decode cX4_settle 102 = .ok (.getfield 16, 3) := by decide +kernel
theorem dX4_settle_105 : decode cX4_settle 105 = .ok (.iload 4, 2) := by decide +kernel
theorem dX4_settle_107 : decode cX4_settle 107 = .ok (.baload, 1) := by decide +kernel
theorem dX4_settle_108 : decode cX4_settle 108 = .ok (.ifCond .eq 10, 3) := by decide +kernel
theorem dX4_settle_111 : decode cX4_settle 111 = .ok (.aload_n 0, 1) := by decide +kernel
theorem dX4_settle_112 : decode cX4_settle 112 = .ok (.iload 4, 2) := by decide +kernel
theorem dX4_settle_114 : decode cX4_settle 114 = .ok (.iload_n 2, 1) := by decide +kernel
theorem dX4_settle_115 : decode cX4_settle 115 = .ok (.invokevirtual 72, 3) := by decide +kernel
theorem dX4_settle_118 : decode cX4_settle 118 = .ok (.iinc 4 1, 3) := by decide +kernel
theorem dX4_settle_121 : decode cX4_settle 121 = .ok (.goto (-30), 3) := by decide +kernel
theorem dX4_settle_124 : decode cX4_settle 124 = .ok (.iinc 2 1, 3) := by decide +kernel
theorem dX4_settle_127 : decode cX4_settle 127 = .ok (.goto (-123), 3) := by decide +kernel
theorem dX4_settle_130 : decode cX4_settle 130 = .ok (.iload_n 1, 1) := by decide +kernel
theorem dX4_settle_131 : decode cX4_settle 131 = .ok (.ireturn, 1) := by decide +kernel
set_option maxRecDepth 20000 in
theorem ggX4_fill_X4_isBox : GoodIn wsX4_fill wsX4_isBox := goodIn_r _ [5, 6, 7, 4, 8, 9, 10, 11] (by decide +kernel) (by decide +kernel)
set_option maxRecDepth 20000 in
theorem gX4_fill_X4_isBox : GoodIn wsX4_fill (va_wsS RX4 76 yX4_isBox wsX4_isBox) := goodIn_app (goodIn_of _ (by decide +kernel)) ggX4_fill_X4_isBox
set_option maxRecDepth 20000 in
theorem ggX4_fill_X4_in : GoodIn wsX4_fill wsX4_in := goodIn_r _ [11] (by decide +kernel) (by decide +kernel)
set_option maxRecDepth 20000 in
theorem gX4_fill_X4_in : GoodIn wsX4_fill (va_wsS RX4 60 yX4_in wsX4_in) := goodIn_app (goodIn_of _ (by decide +kernel)) ggX4_fill_X4_in
set_option maxRecDepth 20000 in
theorem ggX4_fill_X4_goesWell : GoodIn wsX4_fill wsX4_goesWell := goodIn_r _ [15, 16, 36, 37, 38, 39, 40, 41, 42, 43, 44, 45, 46, 47, 48, 49, 50, 51, 52] (by decide +kernel) (by decide +kernel)
set_option maxRecDepth 20000 in
theorem gX4_fill_X4_goesWell : GoodIn wsX4_fill (wsV RX4 80 RX4 yX4_goesWell wsX4_goesWell) := goodIn_app (goodIn_of _ (by decide +kernel)) ggX4_fill_X4_goesWell
set_option maxRecDepth 20000 in
theorem ggX4_fill_X4_keep : GoodIn wsX4_fill wsX4_keep := goodIn_r _ [20, 21, 1, 36, 37, 38, 39, 40, 41, 42, 43, 44, 45, 46, 47, 48, 49, 50, 51, 52] (by decide +kernel) (by decide +kernel)
set_option maxRecDepth 20000 in
theorem gX4_fill_X4_keep : GoodIn wsX4_fill (wsV RX4 84 RX4 yX4_keep wsX4_keep) := goodIn_app (goodIn_of _ (by decide +kernel)) ggX4_fill_X4_keep
set_option maxRecDepth 20000 in
theorem ggX4_fill_X4_settle : GoodIn wsX4_fill wsX4_settle := goodIn_r _ [25, 1, 21, 26, 27, 28, 4, 29, 30, 31, 32, 33, 34, 35, 36, 37, 38, 39, 40, 41, 42, 43, 44, 45, 46, 47, 48, 49, 50, 51, 52] (by decide +kernel) (by decide +kernel)
set_option maxRecDepth 20000 in
theorem gX4_fill_X4_settle : GoodIn wsX4_fill (wsV RX4 87 RX4 yX4_settle wsX4_settle) := goodIn_app (goodIn_of _ (by decide +kernel)) ggX4_fill_X4_settle
theorem dX4_fill_0 : decode cX4_fill 0 = .ok (.aload_n 0, 1) := by decide +kernel
theorem dX4_fill_1 : decode cX4_fill 1 = .ok (.iload_n 1, 1) := by decide +kernel
theorem dX4_fill_2 : decode cX4_fill 2 = .ok (.iload_n 2, 1) := by decide +kernel
theorem dX4_fill_3 : decode cX4_fill 3 = .ok (.iload_n 3, 1) := by decide +kernel
theorem dX4_fill_4 : decode cX4_fill 4 = .ok (.iload 4, 2) := by decide +kernel
theorem dX4_fill_6 : decode cX4_fill 6 = .ok (.invokestatic 76, 3) := by decide +kernel
theorem dX4_fill_9 : decode cX4_fill 9 = .ok (.ifCond .eq 18, 3) := by decide +kernel
theorem dX4_fill_12 : decode cX4_fill 12 = .ok (.iload 5, 2) := by decide +kernel
theorem dX4_fill_14 : decode cX4_fill 14 = .ok (.iconst 0, 1) := by decide +kernel
theorem dX4_fill_15 : decode cX4_fill 15 = .ok (.bipush 15, 2) := by decide +kernel
theorem dX4_fill_17 : decode cX4_fill 17 = .ok (.invokestatic 60, 3) := by decide +kernel
theorem dX4_fill_20 : decode cX4_fill 20 = .ok (.ifCond .eq 7, 3) := by decide +kernel
theorem dX4_fill_23 : decode cX4_fill 23 = .ok (.iconst 0, 1) := by decide +kernel
theorem dX4_fill_24 : decode cX4_fill 24 = .ok (.goto 4, 3) := by decide +kernel
theorem dX4_fill_27 : decode cX4_fill 27 = .ok (.iconst 1, 1) := by decide +kernel
theorem dX4_fill_28 : decode cX4_fill 28 = .ok (.invokevirtual 80, 3) := by decide +kernel
theorem dX4_fill_31 : decode cX4_fill 31 = .ok (.ifCond .ne 5, 3) := by decide +kernel
theorem dX4_fill_34 : decode cX4_fill 34 = .ok (.iconst 0, 1) := by decide +kernel
theorem dX4_fill_35 : decode cX4_fill 35 = .ok (.ireturn, 1) := by decide +kernel
theorem dX4_fill_36 : decode cX4_fill 36 = .ok (.aload_n 0, 1) := by decide +kernel
theorem dX4_fill_37 : decode cX4_fill 37 = .ok (.invokevirtual 84, 3) := by decide +kernel
theorem dX4_fill_40 : decode cX4_fill 40 = .ok (.iconst 0, 1) := by decide +kernel
theorem dX4_fill_41 : decode cX4_fill 41 = .ok (.istore 6, 2) := by decide +kernel
theorem dX4_fill_43 : decode cX4_fill 43 = .ok (.iload 6, 2) := by decide +kernel
theorem dX4_fill_45 : decode cX4_fill 45 = .ok (.iload_n 3, 1) := by decide +kernel
theorem dX4_fill_46 : decode cX4_fill 46 = .ok (.iload 4, 2) := by decide +kernel
theorem dX4_fill_48 : decode cX4_fill 48 = .ok (.imul, 1) := by decide +kernel
theorem dX4_fill_49 : decode cX4_fill 49 = .ok (.if_icmp .ge 32, 3) := by decide +kernel
theorem dX4_fill_52 : decode cX4_fill 52 = .ok (.aload_n 0, 1) := by decide +kernel
theorem dX4_fill_53 : decode cX4_fill 53 = .ok (.getfield 7, 3) := by decide +kernel
theorem dX4_fill_56 : decode cX4_fill 56 = .ok (.bipush 16, 2) := by decide +kernel
theorem dX4_fill_58 : decode cX4_fill 58 = .ok (.iload_n 2, 1) := by decide +kernel
theorem dX4_fill_59 : decode cX4_fill 59 = .ok (.iload 6, 2) := by decide +kernel
theorem dX4_fill_61 : decode cX4_fill 61 = .ok (.iload_n 3, 1) := by decide +kernel
theorem dX4_fill_62 : decode cX4_fill 62 = .ok (.idiv, 1) := by decide +kernel
theorem dX4_fill_63 : decode cX4_fill 63 = .ok (.iadd, 1) := by decide +kernel
theorem dX4_fill_64 : decode cX4_fill 64 = .ok (.imul, 1) := by decide +kernel
theorem dX4_fill_65 : decode cX4_fill 65 = .ok (.iload_n 1, 1) := by decide +kernel
theorem dX4_fill_66 : decode cX4_fill 66 = .ok (.iadd, 1) := by decide +kernel
theorem dX4_fill_67 : decode cX4_fill 67 = .ok (.iload 6, 2) := by decide +kernel
theorem dX4_fill_69 : decode cX4_fill 69 = .ok (.iload_n 3, 1) := by decide +kernel
theorem dX4_fill_70 : decode cX4_fill 70 = .ok (.irem, 1) := by decide +kernel
theorem dX4_fill_71 : decode cX4_fill 71 = .ok (.iadd, 1) := by decide +kernel
theorem dX4_fill_72 : decode cX4_fill 72 = .ok (.iload 5, 2) := by decide +kernel
theorem dX4_fill_74 : decode cX4_fill 74 = .ok (.iastore, 1) := by decide +kernel
theorem dX4_fill_75 : decode cX4_fill 75 = .ok (.iinc 6 1, 3) := by decide +kernel
theorem dX4_fill_78 : decode cX4_fill 78 = .ok (.goto (-35), 3) := by decide +kernel
theorem dX4_fill_81 : decode cX4_fill 81 = .ok (.aload_n 0, 1) := by decide +kernel
theorem dX4_fill_82 : decode cX4_fill 82 = .ok (.invokevirtual 87, 3) := by decide +kernel
theorem dX4_fill_85 : decode cX4_fill 85 = .ok (.ireturn, 1) := by decide +kernel
set_option maxRecDepth 20000 in
theorem ggX4_copy_X4_isBox : GoodIn wsX4_copy wsX4_isBox := goodIn_r _ [6, 7, 8, 5, 9, 10, 11, 12] (by decide +kernel) (by decide +kernel)
set_option maxRecDepth 20000 in
theorem gX4_copy_X4_isBox : GoodIn wsX4_copy (va_wsS RX4 76 yX4_isBox wsX4_isBox) := goodIn_app (goodIn_of _ (by decide +kernel)) ggX4_copy_X4_isBox
set_option maxRecDepth 20000 in
theorem ggX4_copy_X4_in : GoodIn wsX4_copy wsX4_in := goodIn_r _ [12] (by decide +kernel) (by decide +kernel)
set_option maxRecDepth 20000 in
theorem gX4_copy_X4_in : GoodIn wsX4_copy (va_wsS RX4 60 yX4_in wsX4_in) := goodIn_app (goodIn_of _ (by decide +kernel)) ggX4_copy_X4_in
set_option maxRecDepth 20000 in
theorem ggX4_copy_X4_goesWell : GoodIn wsX4_copy wsX4_goesWell := goodIn_r _ [16, 17, 36, 37, 38, 39, 40, 41, 42, 43, 44, 45, 46, 47, 48, 49, 50, 51, 52] (by decide +kernel) (by decide +kernel)
set_option maxRecDepth 20000 in
theorem gX4_copy_X4_goesWell : GoodIn wsX4_copy (wsV RX4 80 RX4 yX4_goesWell wsX4_goesWell) := goodIn_app (goodIn_of _ (by decide +kernel)) ggX4_copy_X4_goesWell
set_option maxRecDepth 20000 in
theorem ggX4_copy_X4_keep : GoodIn wsX4_copy wsX4_keep := goodIn_r _ [21, 2, 1, 36, 37, 38, 39, 40, 41, 42, 43, 44, 45, 46, 47, 48, 49, 50, 51, 52] (by decide +kernel) (by decide +kernel)
set_option maxRecDepth 20000 in
theorem gX4_copy_X4_keep : GoodIn wsX4_copy (wsV RX4 84 RX4 yX4_keep wsX4_keep) := goodIn_app (goodIn_of _ (by decide +kernel)) ggX4_copy_X4_keep
set_option maxRecDepth 20000 in
theorem ggX4_copy_X4_isCell : GoodIn wsX4_copy wsX4_isCell := goodIn_r _ [9, 10, 11, 5, 12] (by decide +kernel) (by decide +kernel)
set_option maxRecDepth 20000 in
theorem gX4_copy_X4_isCell : GoodIn wsX4_copy (va_wsS RX4 64 yX4_isCell wsX4_isCell) := goodIn_app (goodIn_of _ (by decide +kernel)) ggX4_copy_X4_isCell
set_option maxRecDepth 20000 in
theorem ggX4_copy_X4_settle : GoodIn wsX4_copy wsX4_settle := goodIn_r _ [25, 1, 2, 26, 27, 28, 5, 29, 30, 31, 32, 33, 34, 35, 36, 37, 38, 39, 40, 41, 42, 43, 44, 45, 46, 47, 48, 49, 50, 51, 52] (by decide +kernel) (by decide +kernel)
set_option maxRecDepth 20000 in
theorem gX4_copy_X4_settle : GoodIn wsX4_copy (wsV RX4 87 RX4 yX4_settle wsX4_settle) := goodIn_app (goodIn_of _ (by decide +kernel)) ggX4_copy_X4_settle
theorem dX4_copy_0 : decode cX4_copy 0 = .ok (.aload_n 0, 1) := by decide +kernel
theorem dX4_copy_1 : decode cX4_copy 1 = .ok (.iload_n 1, 1) := by decide +kernel
theorem dX4_copy_2 : decode cX4_copy 2 = .ok (.iload_n 2, 1) := by decide +kernel
theorem dX4_copy_3 : decode cX4_copy 3 = .ok (.iload_n 3, 1) := by decide +kernel
theorem dX4_copy_4 : decode cX4_copy 4 = .ok (.iload 4, 2) := by decide +kernel
theorem dX4_copy_6 : decode cX4_copy 6 = .ok (.invokestatic 76, 3) := by decide +kernel
theorem dX4_copy_9 : decode cX4_copy 9 = .ok (.ifCond .eq 31, 3) := by decide +kernel
theorem dX4_copy_12 : decode cX4_copy 12 = .ok (.iload 5, 2) := by decide +kernel
theorem dX4_copy_14 : decode cX4_copy 14 = .ok (.bipush (-15), 2) := by decide +kernel
theorem dX4_copy_16 : decode cX4_copy 16 = .ok (.bipush 15, 2) := by decide +kernel
theorem dX4_copy_18 : decode cX4_copy 18 = .ok (.invokestatic 60, 3) := by decide +kernel
theorem dX4_copy_21 : decode cX4_copy 21 = .ok (.ifCond .eq 19, 3) := by decide +kernel
theorem dX4_copy_24 : decode cX4_copy 24 = .ok (.iload 6, 2) := by decide +kernel
theorem dX4_copy_26 : decode cX4_copy 26 = .ok (.bipush (-11), 2) := by decide +kernel
theorem dX4_copy_28 : decode cX4_copy 28 = .ok (.bipush 11, 2) := by decide +kernel
theorem dX4_copy_30 : decode cX4_copy 30 = .ok (.invokestatic 60, 3) := by decide +kernel
theorem dX4_copy_33 : decode cX4_copy 33 = .ok (.ifCond .eq 7, 3) := by decide +kernel
theorem dX4_copy_36 : decode cX4_copy 36 = .ok (.iconst 0, 1) := by decide +kernel
theorem dX4_copy_37 : decode cX4_copy 37 = .ok (.goto 4, 3) := by decide +kernel
theorem dX4_copy_40 : decode cX4_copy 40 = .ok (.iconst 1, 1) := by decide +kernel
theorem dX4_copy_41 : decode cX4_copy 41 = .ok (.invokevirtual 80, 3) := by decide +kernel
theorem dX4_copy_44 : decode cX4_copy 44 = .ok (.ifCond .ne 5, 3) := by decide +kernel
theorem dX4_copy_47 : decode cX4_copy 47 = .ok (.iconst 0, 1) := by decide +kernel
theorem dX4_copy_48 : decode cX4_copy 48 = .ok (.ireturn, 1) := by decide +kernel
theorem dX4_copy_49 : decode cX4_copy 49 = .ok (.aload_n 0, 1) := by decide +kernel
theorem dX4_copy_50 : decode cX4_copy 50 = .ok (.invokevirtual 84, 3) := by decide +kernel
theorem dX4_copy_53 : decode cX4_copy 53 = .ok (.iconst 0, 1) := by decide +kernel
theorem dX4_copy_54 : decode cX4_copy 54 = .ok (.istore 7, 2) := by decide +kernel
theorem dX4_copy_56 : decode cX4_copy 56 = .ok (.iload 7, 2) := by decide +kernel
theorem dX4_copy_58 : decode cX4_copy 58 = .ok (.iload_n 3, 1) := by decide +kernel
theorem dX4_copy_59 : decode cX4_copy 59 = .ok (.iload 4, 2) := by decide +kernel
theorem dX4_copy_61 : decode cX4_copy 61 = .ok (.imul, 1) := by decide +kernel
theorem dX4_copy_62 : decode cX4_copy 62 = .ok (.if_icmp .ge 73, 3) := by decide +kernel
theorem dX4_copy_65 : decode cX4_copy 65 = .ok (.iload_n 1, 1) := by decide +kernel
theorem dX4_copy_66 : decode cX4_copy 66 = .ok (.iload 7, 2) := by decide +kernel
theorem dX4_copy_68 : decode cX4_copy 68 = .ok (.iload_n 3, 1) := by decide +kernel
theorem dX4_copy_69 : decode cX4_copy 69 = .ok (.irem, 1) := by decide +kernel
theorem dX4_copy_70 : decode cX4_copy 70 = .ok (.iadd, 1) := by decide +kernel
theorem dX4_copy_71 : decode cX4_copy 71 = .ok (.istore 8, 2) := by decide +kernel
theorem dX4_copy_73 : decode cX4_copy 73 = .ok (.iload_n 2, 1) := by decide +kernel
theorem dX4_copy_74 : decode cX4_copy 74 = .ok (.iload 7, 2) := by decide +kernel
theorem dX4_copy_76 : decode cX4_copy 76 = .ok (.iload_n 3, 1) := by decide +kernel
theorem dX4_copy_77 : decode cX4_copy 77 = .ok (.idiv, 1) := by decide +kernel
theorem dX4_copy_78 : decode cX4_copy 78 = .ok (.iadd, 1) := by decide +kernel
theorem dX4_copy_79 : decode cX4_copy 79 = .ok (.istore 9, 2) := by decide +kernel
theorem dX4_copy_81 : decode cX4_copy 81 = .ok (.iload 8, 2) := by decide +kernel
theorem dX4_copy_83 : decode cX4_copy 83 = .ok (.iload 5, 2) := by decide +kernel
theorem dX4_copy_85 : decode cX4_copy 85 = .ok (.iadd, 1) := by decide +kernel
theorem dX4_copy_86 : decode cX4_copy 86 = .ok (.iload 9, 2) := by decide +kernel
theorem dX4_copy_88 : decode cX4_copy 88 = .ok (.iload 6, 2) := by decide +kernel
theorem dX4_copy_90 : decode cX4_copy 90 = .ok (.iadd, 1) := by decide +kernel
theorem dX4_copy_91 : decode cX4_copy 91 = .ok (.invokestatic 64, 3) := by decide +kernel
theorem dX4_copy_94 : decode cX4_copy 94 = .ok (.ifCond .eq 35, 3) := by decide +kernel
theorem dX4_copy_97 : decode cX4_copy 97 = .ok (.aload_n 0, 1) := by decide +kernel
theorem dX4_copy_98 : decode cX4_copy 98 = .ok (.getfield 7, 3) := by decide +kernel
theorem dX4_copy_101 : decode cX4_copy 101 = .ok (.bipush 16, 2) := by decide +kernel
theorem dX4_copy_103 : decode cX4_copy 103 = .ok (.iload 9, 2) := by decide +kernel
theorem dX4_copy_105 : decode cX4_copy 105 = .ok (.iload 6, 2) := by decide +kernel
theorem dX4_copy_107 : decode cX4_copy 107 = .ok (.iadd, 1) := by decide +kernel
theorem dX4_copy_108 : decode cX4_copy 108 = .ok (.imul, 1) := by decide +kernel
theorem dX4_copy_109 : decode cX4_copy 109 = .ok (.iload 8, 2) := by decide +kernel
theorem dX4_copy_111 : decode cX4_copy 111 = .ok (.iadd, 1) := by decide +kernel
theorem dX4_copy_112 : decode cX4_copy 112 = .ok (.iload 5, 2) := by decide +kernel
theorem dX4_copy_114 : decode cX4_copy 114 = .ok (.iadd, 1) := by decide +kernel
theorem dX4_copy_115 : decode cX4_copy 115 = .ok (.aload_n 0, 1) := by decide +kernel
theorem dX4_copy_116 : decode cX4_copy 116 = .ok (.getfield 13, 3) := by decide +kernel
theorem dX4_copy_119 : decode cX4_copy 119 = .ok (.bipush 16, 2) := by decide +kernel
theorem dX4_copy_121 : decode cX4_copy 121 = .ok (.iload 9, 2) := by decide +kernel
theorem dX4_copy_123 : decode cX4_copy 123 = .ok (.imul, 1) := by decide +kernel
theorem dX4_copy_124 : decode cX4_copy 124 = .ok (.iload 8, 2) := by decide +kernel
theorem dX4_copy_126 : decode cX4_copy 126 = .ok (.iadd, 1) := by decide +kernel
theorem dX4_copy_127 : decode cX4_copy 127 = .ok (.iaload, 1) := by decide +kernel
theorem dX4_copy_128 : decode cX4_copy 128 = .ok (.iastore, 1) := by decide +kernel
theorem dX4_copy_129 : decode cX4_copy 129 = .ok (.iinc 7 1, 3) := by decide +kernel
theorem dX4_copy_132 : decode cX4_copy 132 = .ok (.goto (-76), 3) := by decide +kernel
theorem dX4_copy_135 : decode cX4_copy 135 = .ok (.aload_n 0, 1) := by decide +kernel
theorem dX4_copy_136 : decode cX4_copy 136 = .ok (.invokevirtual 87, 3) := by decide +kernel
theorem dX4_copy_139 : decode cX4_copy 139 = .ok (.ireturn, 1) := by decide +kernel
set_option maxRecDepth 20000 in
theorem ggX4_colour_X4_isCell : GoodIn wsX4_colour wsX4_isCell := goodIn_r _ [5, 6, 7, 4, 8] (by decide +kernel) (by decide +kernel)
set_option maxRecDepth 20000 in
theorem gX4_colour_X4_isCell : GoodIn wsX4_colour (va_wsS RX4 64 yX4_isCell wsX4_isCell) := goodIn_app (goodIn_of _ (by decide +kernel)) ggX4_colour_X4_isCell
set_option maxRecDepth 20000 in
theorem ggX4_colour_X4_goesWell : GoodIn wsX4_colour wsX4_goesWell := goodIn_r _ [12, 13, 14, 15, 16, 17, 18, 19, 20, 21, 22, 23, 24, 25, 26, 27, 28, 29, 30] (by decide +kernel) (by decide +kernel)
set_option maxRecDepth 20000 in
theorem gX4_colour_X4_goesWell : GoodIn wsX4_colour (wsV RX4 80 RX4 yX4_goesWell wsX4_goesWell) := goodIn_app (goodIn_of _ (by decide +kernel)) ggX4_colour_X4_goesWell
theorem dX4_colour_0 : decode cX4_colour 0 = .ok (.aload_n 0, 1) := by decide +kernel
theorem dX4_colour_1 : decode cX4_colour 1 = .ok (.iload_n 1, 1) := by decide +kernel
theorem dX4_colour_2 : decode cX4_colour 2 = .ok (.iload_n 2, 1) := by decide +kernel
theorem dX4_colour_3 : decode cX4_colour 3 = .ok (.invokestatic 64, 3) := by decide +kernel
theorem dX4_colour_6 : decode cX4_colour 6 = .ok (.ifCond .eq 7, 3) := by decide +kernel
theorem dX4_colour_9 : decode cX4_colour 9 = .ok (.iconst 0, 1) := by decide +kernel
theorem dX4_colour_10 : decode cX4_colour 10 = .ok (.goto 4, 3) := by decide +kernel
theorem dX4_colour_13 : decode cX4_colour 13 = .ok (.iconst 1, 1) := by decide +kernel
theorem dX4_colour_14 : decode cX4_colour 14 = .ok (.invokevirtual 80, 3) := by decide +kernel
theorem dX4_colour_17 : decode cX4_colour 17 = .ok (.ifCond .eq 17, 3) := by decide +kernel
theorem dX4_colour_20 : decode cX4_colour 20 = .ok (.aload_n 0, 1) := by decide +kernel
theorem dX4_colour_21 : decode cX4_colour 21 = .ok (.getfield 7, 3) := by decide +kernel
theorem dX4_colour_24 : decode cX4_colour 24 = .ok (.bipush 16, 2) := by decide +kernel
theorem dX4_colour_26 : decode cX4_colour 26 = .ok (.iload_n 2, 1) := by decide +kernel
theorem dX4_colour_27 : decode cX4_colour 27 = .ok (.imul, 1) := by decide +kernel
theorem dX4_colour_28 : decode cX4_colour 28 = .ok (.iload_n 1, 1) := by decide +kernel
theorem dX4_colour_29 : decode cX4_colour 29 = .ok (.iadd, 1) := by decide +kernel
theorem dX4_colour_30 : decode cX4_colour 30 = .ok (.iaload, 1) := by decide +kernel
theorem dX4_colour_31 : decode cX4_colour 31 = .ok (.goto 4, 3) := by decide +kernel
theorem dX4_colour_34 : decode cX4_colour 34 = .ok (.iconst 0, 1) := by decide +kernel
theorem dX4_colour_35 : decode cX4_colour 35 = .ok (.ireturn, 1) := by decide +kernel
set_option maxRecDepth 20000 in
theorem ggX4_look_X4_cellOf : GoodIn wsX4_look wsX4_cellOf := goodIn_r _ [6] (by decide +kernel) (by decide +kernel)
set_option maxRecDepth 20000 in
theorem gX4_look_X4_cellOf : GoodIn wsX4_look (va_wsS RX4 68 yX4_cellOf wsX4_cellOf) := goodIn_app (goodIn_of _ (by decide +kernel)) ggX4_look_X4_cellOf
theorem dX4_look_0 : decode cX4_look 0 = .ok (.iconst 0, 1) := by decide +kernel
theorem dX4_look_1 : decode cX4_look 1 = .ok (.istore_n 2, 1) := by decide +kernel
theorem dX4_look_2 : decode cX4_look 2 = .ok (.iload_n 2, 1) := by decide +kernel
theorem dX4_look_3 : decode cX4_look 3 = .ok (.bipush 16, 2) := by decide +kernel
theorem dX4_look_5 : decode cX4_look 5 = .ok (.if_icmp .ge 25, 3) := by decide +kernel
theorem dX4_look_8 : decode cX4_look 8 = .ok (.aload_n 0, 1) := by decide +kernel
theorem dX4_look_9 : decode cX4_look 9 = .ok (.getfield 53, 3) := by decide +kernel
theorem dX4_look_12 : decode cX4_look 12 = .ok (.iload_n 2, 1) := by decide +kernel
theorem dX4_look_13 : decode cX4_look 13 = .ok (.aload_n 0, 1) := by decide +kernel
theorem dX4_look_14 : decode cX4_look 14 = .ok (.getfield 7, 3) := by decide +kernel
theorem dX4_look_17 : decode cX4_look 17 = .ok (.iload_n 1, 1) := by decide +kernel
theorem dX4_look_18 : decode cX4_look 18 = .ok (.iload_n 2, 1) := by decide +kernel
theorem dX4_look_19 : decode cX4_look 19 = .ok (.invokestatic 68, 3) := by decide +kernel
theorem dX4_look_22 : decode cX4_look 22 = .ok (.iaload, 1) := by decide +kernel
theorem dX4_look_23 : decode cX4_look 23 = .ok (.iastore, 1) := by decide +kernel
theorem dX4_look_24 : decode cX4_look 24 = .ok (.iinc 2 1, 3) := by decide +kernel
theorem dX4_look_27 : decode cX4_look 27 = .ok (.goto (-25), 3) := by decide +kernel
theorem dX4_look_30 : decode cX4_look 30 = .ok (.return_, 1) := by decide +kernel
theorem dX4_countColours_0 : decode cX4_countColours 0 = .ok (.iconst 0, 1) := by decide +kernel
theorem dX4_countColours_1 : decode cX4_countColours 1 = .ok (.istore_n 1, 1) := by decide +kernel
theorem dX4_countColours_2 : decode cX4_countColours 2 = .ok (.iconst 0, 1) := by decide +kernel
theorem dX4_countColours_3 : decode cX4_countColours 3 = .ok (.istore_n 2, 1) := by decide +kernel
theorem dX4_countColours_4 : decode cX4_countColours 4 = .ok (.iconst 0, 1) := by decide +kernel
theorem dX4_countColours_5 : decode cX4_countColours 5 = .ok (.istore_n 3, 1) := by decide +kernel
theorem dX4_countColours_6 : decode cX4_countColours 6 = .ok (.iload_n 3, 1) := by decide +kernel
theorem dX4_countColours_7 : decode cX4_countColours 7 = .ok (.bipush 16, 2) := by decide +kernel
theorem dX4_countColours_9 : decode cX4_countColours 9 = .ok (.if_icmp .ge 41, 3) := by decide +kernel
theorem dX4_countColours_12 : decode cX4_countColours 12 = .ok (.iload_n 2, 1) := by decide +kernel
theorem dX4_countColours_13 : decode cX4_countColours 13 = .ok (.iload_n 1, 1) := by decide +kernel
theorem dX4_countColours_14 : decode cX4_countColours 14 = .ok (.aload_n 0, 1) := by decide +kernel
theorem dX4_countColours_15 : decode cX4_countColours 15 = .ok (.getfield 53, 3) := by decide +kernel
theorem dX4_countColours_18 : decode cX4_countColours 18 = .ok (.iload_n 3, 1) := by decide +kernel
theorem dX4_countColours_19 : decode cX4_countColours 19 = .ok (.iaload, 1) := by decide +kernel
theorem dX4_countColours_20 : decode cX4_countColours 20 = .ok (.ishr, 1) := by decide +kernel
theorem dX4_countColours_21 : decode cX4_countColours 21 = .ok (.iconst 1, 1) := by decide +kernel
theorem dX4_countColours_22 : decode cX4_countColours 22 = .ok (.iand, 1) := by decide +kernel
theorem dX4_countColours_23 : decode cX4_countColours 23 = .ok (.ifCond .ne 7, 3) := by decide +kernel
theorem dX4_countColours_26 : decode cX4_countColours 26 = .ok (.iconst 1, 1) := by decide +kernel
theorem dX4_countColours_27 : decode cX4_countColours 27 = .ok (.goto 4, 3) := by decide +kernel
theorem dX4_countColours_30 : decode cX4_countColours 30 = .ok (.iconst 0, 1) := by decide +kernel
theorem dX4_countColours_31 : decode cX4_countColours 31 = .ok (.iadd, 1) := by decide +kernel
theorem dX4_countColours_32 : decode cX4_countColours 32 = .ok (.istore_n 2, 1) := by decide +kernel
theorem dX4_countColours_33 : decode cX4_countColours 33 = .ok (.iload_n 1, 1) := by decide +kernel
theorem dX4_countColours_34 : decode cX4_countColours 34 = .ok (.iconst 1, 1) := by decide +kernel
theorem dX4_countColours_35 : decode cX4_countColours 35 = .ok (.aload_n 0, 1) := by decide +kernel
theorem dX4_countColours_36 : decode cX4_countColours 36 = .ok (.getfield 53, 3) := by decide +kernel
theorem dX4_countColours_39 : decode cX4_countColours 39 = .ok (.iload_n 3, 1) := by decide +kernel
theorem dX4_countColours_40 : decode cX4_countColours 40 = .ok (.iaload, 1) := by decide +kernel
theorem dX4_countColours_41 : decode cX4_countColours 41 = .ok (.ishl, 1) := by decide +kernel
theorem dX4_countColours_42 : decode cX4_countColours 42 = .ok (.ior, 1) := by decide +kernel
theorem dX4_countColours_43 : decode cX4_countColours 43 = .ok (.istore_n 1, 1) := by decide +kernel
theorem dX4_countColours_44 : decode cX4_countColours 44 = .ok (.iinc 3 1, 3) := by decide +kernel
theorem dX4_countColours_47 : decode cX4_countColours 47 = .ok (.goto (-41), 3) := by decide +kernel
theorem dX4_countColours_50 : decode cX4_countColours 50 = .ok (.iload_n 2, 1) := by decide +kernel
theorem dX4_countColours_51 : decode cX4_countColours 51 = .ok (.ireturn, 1) := by decide +kernel
theorem dX4_countRuns_0 : decode cX4_countRuns 0 = .ok (.iconst 1, 1) := by decide +kernel
theorem dX4_countRuns_1 : decode cX4_countRuns 1 = .ok (.istore_n 1, 1) := by decide +kernel
theorem dX4_countRuns_2 : decode cX4_countRuns 2 = .ok (.iconst 1, 1) := by decide +kernel
theorem dX4_countRuns_3 : decode cX4_countRuns 3 = .ok (.istore_n 2, 1) := by decide +kernel
theorem dX4_countRuns_4 : decode cX4_countRuns 4 = .ok (.iload_n 2, 1) := by decide +kernel
theorem dX4_countRuns_5 : decode cX4_countRuns 5 = .ok (.bipush 16, 2) := by decide +kernel
theorem dX4_countRuns_7 : decode cX4_countRuns 7 = .ok (.if_icmp .ge 34, 3) := by decide +kernel
theorem dX4_countRuns_10 : decode cX4_countRuns 10 = .ok (.iload_n 1, 1) := by decide +kernel
theorem dX4_countRuns_11 : decode cX4_countRuns 11 = .ok (.aload_n 0, 1) := by decide +kernel
theorem dX4_countRuns_12 : decode cX4_countRuns 12 = .ok (.getfield 53, 3) := by decide +kernel
theorem dX4_countRuns_15 : decode cX4_countRuns 15 = .ok (.iload_n 2, 1) := by decide +kernel
theorem dX4_countRuns_16 : decode cX4_countRuns 16 = .ok (.iaload, 1) := by decide +kernel
theorem dX4_countRuns_17 : decode cX4_countRuns 17 = .ok (.aload_n 0, 1) := by decide +kernel
theorem dX4_countRuns_18 : decode cX4_countRuns 18 = .ok (.getfield 53, 3) := by decide +kernel
theorem dX4_countRuns_21 : decode cX4_countRuns 21 = .ok (.iload_n 2, 1) := by decide +kernel
theorem dX4_countRuns_22 : decode cX4_countRuns 22 = .ok (.iconst 1, 1) := by decide +kernel
theorem dX4_countRuns_23 : decode cX4_countRuns 23 = .ok (.isub, 1) := by decide +kernel
theorem dX4_countRuns_24 : decode cX4_countRuns 24 = .ok (.iaload, 1) := by decide +kernel
theorem dX4_countRuns_25 : decode cX4_countRuns 25 = .ok (.if_icmp .ne 7, 3) := by decide +kernel
theorem dX4_countRuns_28 : decode cX4_countRuns 28 = .ok (.iconst 0, 1) := by decide +kernel
theorem dX4_countRuns_29 : decode cX4_countRuns 29 = .ok (.goto 4, 3) := by decide +kernel
theorem dX4_countRuns_32 : decode cX4_countRuns 32 = .ok (.iconst 1, 1) := by decide +kernel
theorem dX4_countRuns_33 : decode cX4_countRuns 33 = .ok (.iadd, 1) := by decide +kernel
theorem dX4_countRuns_34 : decode cX4_countRuns 34 = .ok (.istore_n 1, 1) := by decide +kernel
theorem dX4_countRuns_35 : decode cX4_countRuns 35 = .ok (.iinc 2 1, 3) := by decide +kernel
theorem dX4_countRuns_38 : decode cX4_countRuns 38 = .ok (.goto (-34), 3) := by decide +kernel
theorem dX4_countRuns_41 : decode cX4_countRuns 41 = .ok (.iload_n 1, 1) := by decide +kernel
theorem dX4_countRuns_42 : decode cX4_countRuns 42 = .ok (.ireturn, 1) := by decide +kernel
set_option maxRecDepth 20000 in
theorem ggX4_colours_X4_isTile : GoodIn wsX4_colours wsX4_isTile := goodIn_r _ [4, 5, 6, 3, 7] (by decide +kernel) (by decide +kernel)
set_option maxRecDepth 20000 in
theorem gX4_colours_X4_isTile : GoodIn wsX4_colours (va_wsS RX4 91 yX4_isTile wsX4_isTile) := goodIn_app (goodIn_of _ (by decide +kernel)) ggX4_colours_X4_isTile
set_option maxRecDepth 20000 in
theorem ggX4_colours_X4_goesWell : GoodIn wsX4_colours wsX4_goesWell := goodIn_r _ [11, 12, 26, 27, 28, 29, 30, 31, 32, 33, 34, 35, 36, 37, 38, 39, 40, 41, 42] (by decide +kernel) (by decide +kernel)
set_option maxRecDepth 20000 in
theorem gX4_colours_X4_goesWell : GoodIn wsX4_colours (wsV RX4 80 RX4 yX4_goesWell wsX4_goesWell) := goodIn_app (goodIn_of _ (by decide +kernel)) ggX4_colours_X4_goesWell
set_option maxRecDepth 20000 in
theorem ggX4_colours_X4_look : GoodIn wsX4_colours wsX4_look := goodIn_r _ [16, 17, 18, 19, 20, 3, 21, 26, 27, 28, 29, 30, 31, 32, 33, 34, 35, 36, 37, 38, 39, 40, 41, 42] (by decide +kernel) (by decide +kernel)
set_option maxRecDepth 20000 in
theorem gX4_colours_X4_look : GoodIn wsX4_colours (wsV RX4 94 RX4 yX4_look wsX4_look) := goodIn_app (goodIn_of _ (by decide +kernel)) ggX4_colours_X4_look
set_option maxRecDepth 20000 in
theorem ggX4_colours_X4_countColours : GoodIn wsX4_colours wsX4_countColours := goodIn_r _ [25, 17, 26, 27, 28, 29, 30, 31, 32, 33, 34, 35, 36, 37, 38, 39, 40, 41, 42] (by decide +kernel) (by decide +kernel)
set_option maxRecDepth 20000 in
theorem gX4_colours_X4_countColours : GoodIn wsX4_colours (wsV RX4 98 RX4 yX4_countColours wsX4_countColours) := goodIn_app (goodIn_of _ (by decide +kernel)) ggX4_colours_X4_countColours
theorem dX4_colours_0 : decode cX4_colours 0 = .ok (.aload_n 0, 1) := by decide +kernel
theorem dX4_colours_1 : decode cX4_colours 1 = .ok (.iload_n 1, 1) := by decide +kernel
theorem dX4_colours_2 : decode cX4_colours 2 = .ok (.invokestatic 91, 3) := by decide +kernel
theorem dX4_colours_5 : decode cX4_colours 5 = .ok (.ifCond .eq 7, 3) := by decide +kernel
theorem dX4_colours_8 : decode cX4_colours 8 = .ok (.iconst 0, 1) := by decide +kernel
theorem dX4_colours_9 : decode cX4_colours 9 = .ok (.goto 4, 3) := by decide +kernel
theorem dX4_colours_12 : decode cX4_colours 12 = .ok (.iconst 1, 1) := by decide +kernel
theorem dX4_colours_13 : decode cX4_colours 13 = .ok (.invokevirtual 80, 3) := by decide +kernel
theorem dX4_colours_16 : decode cX4_colours 16 = .ok (.ifCond .ne 5, 3) := by decide +kernel
theorem dX4_colours_19 : decode cX4_colours 19 = .ok (.iconst 0, 1) := by decide +kernel
theorem dX4_colours_20 : decode cX4_colours 20 = .ok (.ireturn, 1) := by decide +kernel
theorem dX4_colours_21 : decode cX4_colours 21 = .ok (.aload_n 0, 1) := by decide +kernel
theorem dX4_colours_22 : decode cX4_colours 22 = .ok (.iload_n 1, 1) := by decide +kernel
theorem dX4_colours_23 : decode cX4_colours 23 = .ok (.invokevirtual 94, 3) := by decide +kernel
theorem dX4_colours_26 : decode cX4_colours 26 = .ok (.aload_n 0, 1) := by decide +kernel
theorem dX4_colours_27 : decode cX4_colours 27 = .ok (.invokevirtual 98, 3) := by decide +kernel
theorem dX4_colours_30 : decode cX4_colours 30 = .ok (.ireturn, 1) := by decide +kernel
set_option maxRecDepth 20000 in
theorem ggX4_runs_X4_isTile : GoodIn wsX4_runs wsX4_isTile := goodIn_r _ [4, 5, 6, 3, 7] (by decide +kernel) (by decide +kernel)
set_option maxRecDepth 20000 in
theorem gX4_runs_X4_isTile : GoodIn wsX4_runs (va_wsS RX4 91 yX4_isTile wsX4_isTile) := goodIn_app (goodIn_of _ (by decide +kernel)) ggX4_runs_X4_isTile
set_option maxRecDepth 20000 in
theorem ggX4_runs_X4_goesWell : GoodIn wsX4_runs wsX4_goesWell := goodIn_r _ [11, 12, 26, 27, 28, 29, 30, 31, 32, 33, 34, 35, 36, 37, 38, 39, 40, 41, 42] (by decide +kernel) (by decide +kernel)
set_option maxRecDepth 20000 in
theorem gX4_runs_X4_goesWell : GoodIn wsX4_runs (wsV RX4 80 RX4 yX4_goesWell wsX4_goesWell) := goodIn_app (goodIn_of _ (by decide +kernel)) ggX4_runs_X4_goesWell
set_option maxRecDepth 20000 in
theorem ggX4_runs_X4_look : GoodIn wsX4_runs wsX4_look := goodIn_r _ [16, 17, 18, 19, 20, 3, 21, 26, 27, 28, 29, 30, 31, 32, 33, 34, 35, 36, 37, 38, 39, 40, 41, 42] (by decide +kernel) (by decide +kernel)
set_option maxRecDepth 20000 in
theorem gX4_runs_X4_look : GoodIn wsX4_runs (wsV RX4 94 RX4 yX4_look wsX4_look) := goodIn_app (goodIn_of _ (by decide +kernel)) ggX4_runs_X4_look
set_option maxRecDepth 20000 in
theorem ggX4_runs_X4_countRuns : GoodIn wsX4_runs wsX4_countRuns := goodIn_r _ [25, 17, 26, 27, 28, 29, 30, 31, 32, 33, 34, 35, 36, 37, 38, 39, 40, 41, 42] (by decide +kernel) (by decide +kernel)
set_option maxRecDepth 20000 in
theorem gX4_runs_X4_countRuns : GoodIn wsX4_runs (wsV RX4 101 RX4 yX4_countRuns wsX4_countRuns) := goodIn_app (goodIn_of _ (by decide +kernel)) ggX4_runs_X4_countRuns
theorem dX4_runs_0 : decode cX4_runs 0 = .ok (.aload_n 0, 1) := by decide +kernel
theorem dX4_runs_1 : decode cX4_runs 1 = .ok (.iload_n 1, 1) := by decide +kernel
theorem dX4_runs_2 : decode cX4_runs 2 = .ok (.invokestatic 91, 3) := by decide +kernel
theorem dX4_runs_5 : decode cX4_runs 5 = .ok (.ifCond .eq 7, 3) := by decide +kernel
theorem dX4_runs_8 : decode cX4_runs 8 = .ok (.iconst 0, 1) := by decide +kernel
theorem dX4_runs_9 : decode cX4_runs 9 = .ok (.goto 4, 3) := by decide +kernel
theorem dX4_runs_12 : decode cX4_runs 12 = .ok (.iconst 1, 1) := by decide +kernel
theorem dX4_runs_13 : decode cX4_runs 13 = .ok (.invokevirtual 80, 3) := by decide +kernel
theorem dX4_runs_16 : decode cX4_runs 16 = .ok (.ifCond .ne 5, 3) := by decide +kernel
theorem dX4_runs_19 : decode cX4_runs 19 = .ok (.iconst 0, 1) := by decide +kernel
theorem dX4_runs_20 : decode cX4_runs 20 = .ok (.ireturn, 1) := by decide +kernel
theorem dX4_runs_21 : decode cX4_runs 21 = .ok (.aload_n 0, 1) := by decide +kernel
theorem dX4_runs_22 : decode cX4_runs 22 = .ok (.iload_n 1, 1) := by decide +kernel
theorem dX4_runs_23 : decode cX4_runs 23 = .ok (.invokevirtual 94, 3) := by decide +kernel
theorem dX4_runs_26 : decode cX4_runs 26 = .ok (.aload_n 0, 1) := by decide +kernel
theorem dX4_runs_27 : decode cX4_runs 27 = .ok (.invokevirtual 101, 3) := by decide +kernel
theorem dX4_runs_30 : decode cX4_runs 30 = .ok (.ireturn, 1) := by decide +kernel
theorem dX4_find_0 : decode cX4_find 0 = .ok (.iconst 0, 1) := by decide +kernel
theorem dX4_find_1 : decode cX4_find 1 = .ok (.istore_n 2, 1) := by decide +kernel
theorem dX4_find_2 : decode cX4_find 2 = .ok (.iload_n 2, 1) := by decide +kernel
theorem dX4_find_3 : decode cX4_find 3 = .ok (.aload_n 0, 1) := by decide +kernel
theorem dX4_find_4 : decode cX4_find 4 = .ok (.getfield 26, 3) := by decide +kernel
theorem dX4_find_7 : decode cX4_find 7 = .ok (.iload_n 1, 1) := by decide +kernel
theorem dX4_find_8 : decode cX4_find 8 = .ok (.iaload, 1) := by decide +kernel
theorem dX4_find_9 : decode cX4_find 9 = .ok (.if_icmp .ge 70, 3) := by decide +kernel
theorem dX4_find_12 : decode cX4_find 12 = .ok (.iconst 1, 1) := by decide +kernel
theorem dX4_find_13 : decode cX4_find 13 = .ok (.istore_n 3, 1) := by decide +kernel
theorem dX4_find_14 : decode cX4_find 14 = .ok (.iconst 0, 1) := by decide +kernel
theorem dX4_find_15 : decode cX4_find 15 = .ok (.istore 4, 2) := by decide +kernel
theorem dX4_find_17 : decode cX4_find 17 = .ok (.iload 4, 2) := by decide +kernel
theorem dX4_find_19 : decode cX4_find 19 = .ok (.bipush 16, 2) := by decide +kernel
theorem dX4_find_21 : decode cX4_find 21 = .ok (.if_icmp .ge 46, 3) := by decide +kernel
theorem dX4_find_24 : decode cX4_find 24 = .ok (.iload_n 3, 1) := by decide +kernel
theorem dX4_find_25 : decode cX4_find 25 = .ok (.ifCond .eq 34, 3) := by decide +kernel
theorem dX4_find_28 : decode cX4_find 28 = .ok (.aload_n 0, 1) := by decide +kernel
theorem dX4_find_29 : decode cX4_find 29 = .ok (.getfield 23, 3) := by decide +kernel
theorem dX4_find_32 : decode cX4_find 32 = .ok (.bipush 112, 2) := by decide +kernel
theorem dX4_find_34 : decode cX4_find 34 = .ok (.iload_n 1, 1) := by decide +kernel
theorem dX4_find_35 : decode cX4_find 35 = .ok (.imul, 1) := by decide +kernel
theorem dX4_find_36 : decode cX4_find 36 = .ok (.bipush 16, 2) := by decide +kernel
theorem dX4_find_38 : decode cX4_find 38 = .ok (.iload_n 2, 1) := by decide +kernel
theorem dX4_find_39 : decode cX4_find 39 = .ok (.imul, 1) := by decide +kernel
theorem dX4_find_40 : decode cX4_find 40 = .ok (.iadd, 1) := by decide +kernel
theorem dX4_find_41 : decode cX4_find 41 = .ok (.iload 4, 2) := by decide +kernel
theorem dX4_find_43 : decode cX4_find 43 = .ok (.iadd, 1) := by decide +kernel
theorem dX4_find_44 : decode cX4_find 44 = .ok (.iaload, 1) := by decide +kernel
theorem dX4_find_45 : decode cX4_find 45 = .ok (.aload_n 0, 1) := by decide +kernel
theorem dX4_find_46 : decode cX4_find 46 = .ok (.getfield 53, 3) := by decide +kernel
theorem dX4_find_49 : decode cX4_find 49 = .ok (.iload 4, 2) := by decide +kernel
theorem dX4_find_51 : decode cX4_find 51 = .ok (.iaload, 1) := by decide +kernel
theorem dX4_find_52 : decode cX4_find 52 = .ok (.if_icmp .ne 7, 3) := by decide +kernel
theorem dX4_find_55 : decode cX4_find 55 = .ok (.iconst 1, 1) := by decide +kernel
theorem dX4_find_56 : decode cX4_find 56 = .ok (.goto 4, 3) := by decide +kernel
theorem dX4_find_59 : decode cX4_find 59 = .ok (.iconst 0, 1) := by decide +kernel
theorem dX4_find_60 : decode cX4_find 60 = .ok (.istore_n 3, 1) := by decide +kernel
theorem dX4_find_61 : decode cX4_find 61 = .ok (.iinc 4 1, 3) := by decide +kernel
theorem dX4_find_64 : decode cX4_find 64 = .ok (.goto (-47), 3) := by decide +kernel
theorem dX4_find_67 : decode cX4_find 67 = .ok (.iload_n 3, 1) := by decide +kernel
theorem dX4_find_68 : decode cX4_find 68 = .ok (.ifCond .eq 5, 3) := by decide +kernel
theorem dX4_find_71 : decode cX4_find 71 = .ok (.iload_n 2, 1) := by decide +kernel
theorem dX4_find_72 : decode cX4_find 72 = .ok (.ireturn, 1) := by decide +kernel
theorem dX4_find_73 : decode cX4_find 73 = .ok (.iinc 2 1, 3) := by decide +kernel
theorem dX4_find_76 : decode cX4_find 76 = .ok (.goto (-74), 3) := by decide +kernel
theorem dX4_find_79 : decode cX4_find 79 = .ok (.iconst (-1), 1) := by decide +kernel
theorem dX4_find_80 : decode cX4_find 80 = .ok (.ireturn, 1) := by decide +kernel
theorem dX4_better_0 : decode cX4_better 0 = .ok (.iload_n 2, 1) := by decide +kernel
theorem dX4_better_1 : decode cX4_better 1 = .ok (.iload_n 0, 1) := by decide +kernel
theorem dX4_better_2 : decode cX4_better 2 = .ok (.bipush 100, 2) := by decide +kernel
theorem dX4_better_4 : decode cX4_better 4 = .ok (.irem, 1) := by decide +kernel
theorem dX4_better_5 : decode cX4_better 5 = .ok (.if_icmp .ge 12, 3) := by decide +kernel
theorem dX4_better_8 : decode cX4_better 8 = .ok (.bipush 100, 2) := by decide +kernel
theorem dX4_better_10 : decode cX4_better 10 = .ok (.iload_n 1, 1) := by decide +kernel
theorem dX4_better_11 : decode cX4_better 11 = .ok (.imul, 1) := by decide +kernel
theorem dX4_better_12 : decode cX4_better 12 = .ok (.iload_n 2, 1) := by decide +kernel
theorem dX4_better_13 : decode cX4_better 13 = .ok (.iadd, 1) := by decide +kernel
theorem dX4_better_14 : decode cX4_better 14 = .ok (.goto 4, 3) := by decide +kernel
theorem dX4_better_17 : decode cX4_better 17 = .ok (.iload_n 0, 1) := by decide +kernel
theorem dX4_better_18 : decode cX4_better 18 = .ok (.ireturn, 1) := by decide +kernel
set_option maxRecDepth 20000 in
theorem ggX4_wayOf_X4_countColours : GoodIn wsX4_wayOf wsX4_countColours := goodIn_r _ [5, 6, 23, 24, 25, 26, 27, 28, 29, 30, 31, 32, 33, 34, 35, 36, 37, 38, 39] (by decide +kernel) (by decide +kernel)
set_option maxRecDepth 20000 in
theorem gX4_wayOf_X4_countColours : GoodIn wsX4_wayOf (wsV RX4 98 RX4 yX4_countColours wsX4_countColours) := goodIn_app (goodIn_of _ (by decide +kernel)) ggX4_wayOf_X4_countColours
set_option maxRecDepth 20000 in
theorem ggX4_wayOf_X4_find : GoodIn wsX4_wayOf wsX4_find := goodIn_r _ [10, 11, 12, 6, 23, 24, 25, 26, 27, 28, 29, 30, 31, 32, 33, 34, 35, 36, 37, 38, 39] (by decide +kernel) (by decide +kernel)
set_option maxRecDepth 20000 in
theorem gX4_wayOf_X4_find : GoodIn wsX4_wayOf (wsV RX4 104 RX4 yX4_find wsX4_find) := goodIn_app (goodIn_of _ (by decide +kernel)) ggX4_wayOf_X4_find
set_option maxRecDepth 20000 in
theorem ggX4_wayOf_X4_better : GoodIn wsX4_wayOf wsX4_better := goodIn_r _ [15] (by decide +kernel) (by decide +kernel)
set_option maxRecDepth 20000 in
theorem gX4_wayOf_X4_better : GoodIn wsX4_wayOf (va_wsS RX4 108 yX4_better wsX4_better) := goodIn_app (goodIn_of _ (by decide +kernel)) ggX4_wayOf_X4_better
set_option maxRecDepth 20000 in
theorem ggX4_wayOf_X4_in : GoodIn wsX4_wayOf wsX4_in := goodIn_r _ [18] (by decide +kernel) (by decide +kernel)
set_option maxRecDepth 20000 in
theorem gX4_wayOf_X4_in : GoodIn wsX4_wayOf (va_wsS RX4 60 yX4_in wsX4_in) := goodIn_app (goodIn_of _ (by decide +kernel)) ggX4_wayOf_X4_in
set_option maxRecDepth 20000 in
theorem ggX4_wayOf_X4_countRuns : GoodIn wsX4_wayOf wsX4_countRuns := goodIn_r _ [22, 6, 23, 24, 25, 26, 27, 28, 29, 30, 31, 32, 33, 34, 35, 36, 37, 38, 39] (by decide +kernel) (by decide +kernel)
set_option maxRecDepth 20000 in
theorem gX4_wayOf_X4_countRuns : GoodIn wsX4_wayOf (wsV RX4 101 RX4 yX4_countRuns wsX4_countRuns) := goodIn_app (goodIn_of _ (by decide +kernel)) ggX4_wayOf_X4_countRuns
theorem dX4_wayOf_0 : decode cX4_wayOf 0 = .ok (.aload_n 0, 1) := by decide +kernel
theorem dX4_wayOf_1 : decode cX4_wayOf 1 = .ok (.invokevirtual 98, 3) := by decide +kernel
theorem dX4_wayOf_4 : decode cX4_wayOf 4 = .ok (.istore_n 2, 1) := by decide +kernel
theorem dX4_wayOf_5 : decode cX4_wayOf 5 = .ok (.sipush 499, 3) := by decide +kernel
theorem dX4_wayOf_8 : decode cX4_wayOf 8 = .ok (.istore_n 3, 1) := by decide +kernel
theorem dX4_wayOf_9 : decode cX4_wayOf 9 = .ok (.aload_n 0, 1) := by decide +kernel
theorem dX4_wayOf_10 : decode cX4_wayOf 10 = .ok (.iload_n 1, 1) := by decide +kernel
theorem dX4_wayOf_11 : decode cX4_wayOf 11 = .ok (.invokevirtual 104, 3) := by decide +kernel
theorem dX4_wayOf_14 : decode cX4_wayOf 14 = .ok (.iconst (-1), 1) := by decide +kernel
theorem dX4_wayOf_15 : decode cX4_wayOf 15 = .ok (.if_icmp .eq 12, 3) := by decide +kernel
theorem dX4_wayOf_18 : decode cX4_wayOf 18 = .ok (.iload_n 3, 1) := by decide +kernel
theorem dX4_wayOf_19 : decode cX4_wayOf 19 = .ok (.iconst 0, 1) := by decide +kernel
theorem dX4_wayOf_20 : decode cX4_wayOf 20 = .ok (.iconst 2, 1) := by decide +kernel
theorem dX4_wayOf_21 : decode cX4_wayOf 21 = .ok (.invokestatic 108, 3) := by decide +kernel
theorem dX4_wayOf_24 : decode cX4_wayOf 24 = .ok (.goto 4, 3) := by decide +kernel
theorem dX4_wayOf_27 : decode cX4_wayOf 27 = .ok (.iload_n 3, 1) := by decide +kernel
theorem dX4_wayOf_28 : decode cX4_wayOf 28 = .ok (.istore_n 3, 1) := by decide +kernel
theorem dX4_wayOf_29 : decode cX4_wayOf 29 = .ok (.iload_n 2, 1) := by decide +kernel
theorem dX4_wayOf_30 : decode cX4_wayOf 30 = .ok (.iconst 1, 1) := by decide +kernel
theorem dX4_wayOf_31 : decode cX4_wayOf 31 = .ok (.if_icmp .ne 12, 3) := by decide +kernel
theorem dX4_wayOf_34 : decode cX4_wayOf 34 = .ok (.iload_n 3, 1) := by decide +kernel
theorem dX4_wayOf_35 : decode cX4_wayOf 35 = .ok (.iconst 1, 1) := by decide +kernel
theorem dX4_wayOf_36 : decode cX4_wayOf 36 = .ok (.iconst 3, 1) := by decide +kernel
theorem dX4_wayOf_37 : decode cX4_wayOf 37 = .ok (.invokestatic 108, 3) := by decide +kernel
theorem dX4_wayOf_40 : decode cX4_wayOf 40 = .ok (.goto 4, 3) := by decide +kernel
theorem dX4_wayOf_43 : decode cX4_wayOf 43 = .ok (.iload_n 3, 1) := by decide +kernel
theorem dX4_wayOf_44 : decode cX4_wayOf 44 = .ok (.istore_n 3, 1) := by decide +kernel
theorem dX4_wayOf_45 : decode cX4_wayOf 45 = .ok (.iload_n 2, 1) := by decide +kernel
theorem dX4_wayOf_46 : decode cX4_wayOf 46 = .ok (.iconst 2, 1) := by decide +kernel
theorem dX4_wayOf_47 : decode cX4_wayOf 47 = .ok (.iconst 4, 1) := by decide +kernel
theorem dX4_wayOf_48 : decode cX4_wayOf 48 = .ok (.invokestatic 60, 3) := by decide +kernel
theorem dX4_wayOf_51 : decode cX4_wayOf 51 = .ok (.ifCond .eq 33, 3) := by decide +kernel
theorem dX4_wayOf_54 : decode cX4_wayOf 54 = .ok (.iload_n 3, 1) := by decide +kernel
theorem dX4_wayOf_55 : decode cX4_wayOf 55 = .ok (.iconst 2, 1) := by decide +kernel
theorem dX4_wayOf_56 : decode cX4_wayOf 56 = .ok (.iload_n 2, 1) := by decide +kernel
theorem dX4_wayOf_57 : decode cX4_wayOf 57 = .ok (.iconst 2, 1) := by decide +kernel
theorem dX4_wayOf_58 : decode cX4_wayOf 58 = .ok (.if_icmp .ne 8, 3) := by decide +kernel
theorem dX4_wayOf_61 : decode cX4_wayOf 61 = .ok (.bipush 10, 2) := by decide +kernel
theorem dX4_wayOf_63 : decode cX4_wayOf 63 = .ok (.goto 15, 3) := by decide +kernel
theorem dX4_wayOf_66 : decode cX4_wayOf 66 = .ok (.iload_n 2, 1) := by decide +kernel
theorem dX4_wayOf_67 : decode cX4_wayOf 67 = .ok (.iconst 3, 1) := by decide +kernel
theorem dX4_wayOf_68 : decode cX4_wayOf 68 = .ok (.if_icmp .ne 8, 3) := by decide +kernel
theorem dX4_wayOf_71 : decode cX4_wayOf 71 = .ok (.bipush 15, 2) := by decide +kernel
theorem dX4_wayOf_73 : decode cX4_wayOf 73 = .ok (.goto 5, 3) := by decide +kernel
theorem dX4_wayOf_76 : decode cX4_wayOf 76 = .ok (.bipush 16, 2) := by decide +kernel
theorem dX4_wayOf_78 : decode cX4_wayOf 78 = .ok (.invokestatic 108, 3) := by decide +kernel
theorem dX4_wayOf_81 : decode cX4_wayOf 81 = .ok (.goto 4, 3) := by decide +kernel
theorem dX4_wayOf_84 : decode cX4_wayOf 84 = .ok (.iload_n 3, 1) := by decide +kernel
theorem dX4_wayOf_85 : decode cX4_wayOf 85 = .ok (.istore_n 3, 1) := by decide +kernel
theorem dX4_wayOf_86 : decode cX4_wayOf 86 = .ok (.iload_n 3, 1) := by decide +kernel
theorem dX4_wayOf_87 : decode cX4_wayOf 87 = .ok (.iconst 3, 1) := by decide +kernel
theorem dX4_wayOf_88 : decode cX4_wayOf 88 = .ok (.iconst 1, 1) := by decide +kernel
theorem dX4_wayOf_89 : decode cX4_wayOf 89 = .ok (.iconst 2, 1) := by decide +kernel
theorem dX4_wayOf_90 : decode cX4_wayOf 90 = .ok (.aload_n 0, 1) := by decide +kernel
theorem dX4_wayOf_91 : decode cX4_wayOf 91 = .ok (.invokevirtual 101, 3) := by decide +kernel
theorem dX4_wayOf_94 : decode cX4_wayOf 94 = .ok (.imul, 1) := by decide +kernel
theorem dX4_wayOf_95 : decode cX4_wayOf 95 = .ok (.iadd, 1) := by decide +kernel
theorem dX4_wayOf_96 : decode cX4_wayOf 96 = .ok (.invokestatic 108, 3) := by decide +kernel
theorem dX4_wayOf_99 : decode cX4_wayOf 99 = .ok (.istore_n 3, 1) := by decide +kernel
theorem dX4_wayOf_100 : decode cX4_wayOf 100 = .ok (.iload_n 3, 1) := by decide +kernel
theorem dX4_wayOf_101 : decode cX4_wayOf 101 = .ok (.iconst 4, 1) := by decide +kernel
theorem dX4_wayOf_102 : decode cX4_wayOf 102 = .ok (.bipush 17, 2) := by decide +kernel
theorem dX4_wayOf_104 : decode cX4_wayOf 104 = .ok (.invokestatic 108, 3) := by decide +kernel
theorem dX4_wayOf_107 : decode cX4_wayOf 107 = .ok (.ireturn, 1) := by decide +kernel
set_option maxRecDepth 20000 in
theorem ggX4_way_X4_isClient : GoodIn wsX4_way wsX4_isClient := goodIn_r _ [5, 6, 7, 4, 8] (by decide +kernel) (by decide +kernel)
set_option maxRecDepth 20000 in
theorem gX4_way_X4_isClient : GoodIn wsX4_way (va_wsS RX4 112 yX4_isClient wsX4_isClient) := goodIn_app (goodIn_of _ (by decide +kernel)) ggX4_way_X4_isClient
set_option maxRecDepth 20000 in
theorem ggX4_way_X4_isTile : GoodIn wsX4_way wsX4_isTile := goodIn_r _ [11, 6, 7, 4, 8] (by decide +kernel) (by decide +kernel)
set_option maxRecDepth 20000 in
theorem gX4_way_X4_isTile : GoodIn wsX4_way (va_wsS RX4 91 yX4_isTile wsX4_isTile) := goodIn_app (goodIn_of _ (by decide +kernel)) ggX4_way_X4_isTile
set_option maxRecDepth 20000 in
theorem ggX4_way_X4_goesWell : GoodIn wsX4_way wsX4_goesWell := goodIn_r _ [15, 16, 47, 48, 49, 50, 51, 52, 53, 54, 55, 56, 57, 58, 59, 60, 61, 62, 63] (by decide +kernel) (by decide +kernel)
set_option maxRecDepth 20000 in
theorem gX4_way_X4_goesWell : GoodIn wsX4_way (wsV RX4 80 RX4 yX4_goesWell wsX4_goesWell) := goodIn_app (goodIn_of _ (by decide +kernel)) ggX4_way_X4_goesWell
set_option maxRecDepth 20000 in
theorem ggX4_way_X4_look : GoodIn wsX4_way wsX4_look := goodIn_r _ [20, 21, 22, 23, 24, 4, 25, 47, 48, 49, 50, 51, 52, 53, 54, 55, 56, 57, 58, 59, 60, 61, 62, 63] (by decide +kernel) (by decide +kernel)
set_option maxRecDepth 20000 in
theorem gX4_way_X4_look : GoodIn wsX4_way (wsV RX4 94 RX4 yX4_look wsX4_look) := goodIn_app (goodIn_of _ (by decide +kernel)) ggX4_way_X4_look
set_option maxRecDepth 20000 in
theorem ggX4_way_X4_wayOf : GoodIn wsX4_way wsX4_wayOf := goodIn_r _ [29, 30, 31, 32, 4, 33, 21, 34, 35, 36, 37, 38, 39, 40, 41, 42, 6, 7, 8, 43, 44, 45, 46, 47, 48, 49, 50, 51, 52, 53, 54, 55, 56, 57, 58, 59, 60, 61, 62, 63] (by decide +kernel) (by decide +kernel)
set_option maxRecDepth 20000 in
theorem gX4_way_X4_wayOf : GoodIn wsX4_way (wsV RX4 115 RX4 yX4_wayOf wsX4_wayOf) := goodIn_app (goodIn_of _ (by decide +kernel)) ggX4_way_X4_wayOf
theorem dX4_way_0 : decode cX4_way 0 = .ok (.iload_n 1, 1) := by decide +kernel
theorem dX4_way_1 : decode cX4_way 1 = .ok (.invokestatic 112, 3) := by decide +kernel
theorem dX4_way_4 : decode cX4_way 4 = .ok (.ifCond .eq 14, 3) := by decide +kernel
theorem dX4_way_7 : decode cX4_way 7 = .ok (.iload_n 2, 1) := by decide +kernel
theorem dX4_way_8 : decode cX4_way 8 = .ok (.invokestatic 91, 3) := by decide +kernel
theorem dX4_way_11 : decode cX4_way 11 = .ok (.ifCond .eq 7, 3) := by decide +kernel
theorem dX4_way_14 : decode cX4_way 14 = .ok (.iconst 1, 1) := by decide +kernel
theorem dX4_way_15 : decode cX4_way 15 = .ok (.goto 4, 3) := by decide +kernel
theorem dX4_way_18 : decode cX4_way 18 = .ok (.iconst 0, 1) := by decide +kernel
theorem dX4_way_19 : decode cX4_way 19 = .ok (.istore_n 3, 1) := by decide +kernel
theorem dX4_way_20 : decode cX4_way 20 = .ok (.aload_n 0, 1) := by decide +kernel
theorem dX4_way_21 : decode cX4_way 21 = .ok (.iload_n 3, 1) := by decide +kernel
theorem dX4_way_22 : decode cX4_way 22 = .ok (.ifCond .ne 7, 3) := by decide +kernel
theorem dX4_way_25 : decode cX4_way 25 = .ok (.iconst 1, 1) := by decide +kernel
theorem dX4_way_26 : decode cX4_way 26 = .ok (.goto 17, 3) := by decide +kernel
theorem dX4_way_29 : decode cX4_way 29 = .ok (.aload_n 0, 1) := by decide +kernel
theorem dX4_way_30 : decode cX4_way 30 = .ok (.getfield 16, 3) := by decide +kernel
theorem dX4_way_33 : decode cX4_way 33 = .ok (.iload_n 1, 1) := by decide +kernel
theorem dX4_way_34 : decode cX4_way 34 = .ok (.baload, 1) := by decide +kernel
theorem dX4_way_35 : decode cX4_way 35 = .ok (.ifCond .eq 7, 3) := by decide +kernel
theorem dX4_way_38 : decode cX4_way 38 = .ok (.iconst 0, 1) := by decide +kernel
theorem dX4_way_39 : decode cX4_way 39 = .ok (.goto 4, 3) := by decide +kernel
theorem dX4_way_42 : decode cX4_way 42 = .ok (.iconst 2, 1) := by decide +kernel
theorem dX4_way_43 : decode cX4_way 43 = .ok (.invokevirtual 80, 3) := by decide +kernel
theorem dX4_way_46 : decode cX4_way 46 = .ok (.ifCond .ne 5, 3) := by decide +kernel
theorem dX4_way_49 : decode cX4_way 49 = .ok (.iconst 0, 1) := by decide +kernel
theorem dX4_way_50 : decode cX4_way 50 = .ok (.ireturn, 1) := by decide +kernel
theorem dX4_way_51 : decode cX4_way 51 = .ok (.aload_n 0, 1) := by decide +kernel
theorem dX4_way_52 : decode cX4_way 52 = .ok (.iload_n 2, 1) := by decide +kernel
theorem dX4_way_53 : decode cX4_way 53 = .ok (.invokevirtual 94, 3) := by decide +kernel
theorem dX4_way_56 : decode cX4_way 56 = .ok (.aload_n 0, 1) := by decide +kernel
theorem dX4_way_57 : decode cX4_way 57 = .ok (.iload_n 1, 1) := by decide +kernel
theorem dX4_way_58 : decode cX4_way 58 = .ok (.invokevirtual 115, 3) := by decide +kernel
theorem dX4_way_61 : decode cX4_way 61 = .ok (.ireturn, 1) := by decide +kernel
set_option maxRecDepth 20000 in
theorem ggX4_join_X4_isClient : GoodIn wsX4_join wsX4_isClient := goodIn_r _ [11, 12, 13, 10, 14] (by decide +kernel) (by decide +kernel)
set_option maxRecDepth 20000 in
theorem gX4_join_X4_isClient : GoodIn wsX4_join (va_wsS RX4 112 yX4_isClient wsX4_isClient) := goodIn_app (goodIn_of _ (by decide +kernel)) ggX4_join_X4_isClient
set_option maxRecDepth 20000 in
theorem ggX4_join_X4_goesWell : GoodIn wsX4_join wsX4_goesWell := goodIn_r _ [18, 19, 20, 21, 22, 23, 24, 25, 26, 27, 28, 29, 30, 31, 32, 33, 34, 35, 36] (by decide +kernel) (by decide +kernel)
set_option maxRecDepth 20000 in
theorem gX4_join_X4_goesWell : GoodIn wsX4_join (wsV RX4 80 RX4 yX4_goesWell wsX4_goesWell) := goodIn_app (goodIn_of _ (by decide +kernel)) ggX4_join_X4_goesWell
theorem dX4_join_0 : decode cX4_join 0 = .ok (.aload_n 0, 1) := by decide +kernel
theorem dX4_join_1 : decode cX4_join 1 = .ok (.iload_n 1, 1) := by decide +kernel
theorem dX4_join_2 : decode cX4_join 2 = .ok (.invokestatic 112, 3) := by decide +kernel
theorem dX4_join_5 : decode cX4_join 5 = .ok (.ifCond .eq 7, 3) := by decide +kernel
theorem dX4_join_8 : decode cX4_join 8 = .ok (.iconst 0, 1) := by decide +kernel
theorem dX4_join_9 : decode cX4_join 9 = .ok (.goto 4, 3) := by decide +kernel
theorem dX4_join_12 : decode cX4_join 12 = .ok (.iconst 1, 1) := by decide +kernel
theorem dX4_join_13 : decode cX4_join 13 = .ok (.invokevirtual 80, 3) := by decide +kernel
theorem dX4_join_16 : decode cX4_join 16 = .ok (.ifCond .ne 5, 3) := by decide +kernel
theorem dX4_join_19 : decode cX4_join 19 = .ok (.iconst 0, 1) := by decide +kernel
theorem dX4_join_20 : decode cX4_join 20 = .ok (.ireturn, 1) := by decide +kernel
theorem dX4_join_21 : decode cX4_join 21 = .ok (.aload_n 0, 1) := by decide +kernel
theorem dX4_join_22 : decode cX4_join 22 = .ok (.getfield 16, 3) := by decide +kernel
theorem dX4_join_25 : decode cX4_join 25 = .ok (.iload_n 1, 1) := by decide +kernel
theorem dX4_join_26 : decode cX4_join 26 = .ok (.iconst 1, 1) := by decide +kernel
theorem dX4_join_27 : decode cX4_join 27 = .ok (.bastore, 1) := by decide +kernel
theorem dX4_join_28 : decode cX4_join 28 = .ok (.aload_n 0, 1) := by decide +kernel
theorem dX4_join_29 : decode cX4_join 29 = .ok (.getfield 26, 3) := by decide +kernel
theorem dX4_join_32 : decode cX4_join 32 = .ok (.iload_n 1, 1) := by decide +kernel
theorem dX4_join_33 : decode cX4_join 33 = .ok (.iconst 0, 1) := by decide +kernel
theorem dX4_join_34 : decode cX4_join 34 = .ok (.iastore, 1) := by decide +kernel
theorem dX4_join_35 : decode cX4_join 35 = .ok (.aload_n 0, 1) := by decide +kernel
theorem dX4_join_36 : decode cX4_join 36 = .ok (.getfield 32, 3) := by decide +kernel
theorem dX4_join_39 : decode cX4_join 39 = .ok (.iload_n 1, 1) := by decide +kernel
theorem dX4_join_40 : decode cX4_join 40 = .ok (.iconst 0, 1) := by decide +kernel
theorem dX4_join_41 : decode cX4_join 41 = .ok (.iastore, 1) := by decide +kernel
theorem dX4_join_42 : decode cX4_join 42 = .ok (.aload_n 0, 1) := by decide +kernel
theorem dX4_join_43 : decode cX4_join 43 = .ok (.getfield 47, 3) := by decide +kernel
theorem dX4_join_46 : decode cX4_join 46 = .ok (.iload_n 1, 1) := by decide +kernel
theorem dX4_join_47 : decode cX4_join 47 = .ok (.iconst 0, 1) := by decide +kernel
theorem dX4_join_48 : decode cX4_join 48 = .ok (.iastore, 1) := by decide +kernel
theorem dX4_join_49 : decode cX4_join 49 = .ok (.aload_n 0, 1) := by decide +kernel
theorem dX4_join_50 : decode cX4_join 50 = .ok (.getfield 38, 3) := by decide +kernel
theorem dX4_join_53 : decode cX4_join 53 = .ok (.iload_n 1, 1) := by decide +kernel
theorem dX4_join_54 : decode cX4_join 54 = .ok (.bipush 12, 2) := by decide +kernel
theorem dX4_join_56 : decode cX4_join 56 = .ok (.iastore, 1) := by decide +kernel
theorem dX4_join_57 : decode cX4_join 57 = .ok (.iconst 0, 1) := by decide +kernel
theorem dX4_join_58 : decode cX4_join 58 = .ok (.istore_n 2, 1) := by decide +kernel
theorem dX4_join_59 : decode cX4_join 59 = .ok (.iload_n 2, 1) := by decide +kernel
theorem dX4_join_60 : decode cX4_join 60 = .ok (.bipush 12, 2) := by decide +kernel
theorem dX4_join_62 : decode cX4_join 62 = .ok (.if_icmp .ge 21, 3) := by decide +kernel
theorem dX4_join_65 : decode cX4_join 65 = .ok (.aload_n 0, 1) := by decide +kernel
theorem dX4_join_66 : decode cX4_join 66 = .ok (.getfield 35, 3) := by decide +kernel
theorem dX4_join_69 : decode cX4_join 69 = .ok (.bipush 12, 2) := by decide +kernel
theorem dX4_join_71 : decode cX4_join 71 = .ok (.iload_n 1, 1) := by decide +kernel
theorem dX4_join_72 : decode cX4_join 72 = .ok (.imul, 1) := by decide +kernel
theorem dX4_join_73 : decode cX4_join 73 = .ok (.iload_n 2, 1) := by decide +kernel
theorem dX4_join_74 : decode cX4_join 74 = .ok (.iadd, 1) := by decide +kernel
theorem dX4_join_75 : decode cX4_join 75 = .ok (.iload_n 2, 1) := by decide +kernel
theorem dX4_join_76 : decode cX4_join 76 = .ok (.iastore, 1) := by decide +kernel
theorem dX4_join_77 : decode cX4_join 77 = .ok (.iinc 2 1, 3) := by decide +kernel
theorem dX4_join_80 : decode cX4_join 80 = .ok (.goto (-21), 3) := by decide +kernel
theorem dX4_join_83 : decode cX4_join 83 = .ok (.iconst 0, 1) := by decide +kernel
theorem dX4_join_84 : decode cX4_join 84 = .ok (.istore_n 2, 1) := by decide +kernel
theorem dX4_join_85 : decode cX4_join 85 = .ok (.iload_n 2, 1) := by decide +kernel
theorem dX4_join_86 : decode cX4_join 86 = .ok (.sipush 192, 3) := by decide +kernel
theorem dX4_join_89 : decode cX4_join 89 = .ok (.if_icmp .ge 22, 3) := by decide +kernel
theorem dX4_join_92 : decode cX4_join 92 = .ok (.aload_n 0, 1) := by decide +kernel
theorem dX4_join_93 : decode cX4_join 93 = .ok (.getfield 20, 3) := by decide +kernel
theorem dX4_join_96 : decode cX4_join 96 = .ok (.sipush 192, 3) := by decide +kernel
theorem dX4_join_99 : decode cX4_join 99 = .ok (.iload_n 1, 1) := by decide +kernel
theorem dX4_join_100 : decode cX4_join 100 = .ok (.imul, 1) := by decide +kernel
theorem dX4_join_101 : decode cX4_join 101 = .ok (.iload_n 2, 1) := by decide +kernel
theorem dX4_join_102 : decode cX4_join 102 = .ok (.iadd, 1) := by decide +kernel
theorem dX4_join_103 : decode cX4_join 103 = .ok (.iconst 0, 1) := by decide +kernel
theorem dX4_join_104 : decode cX4_join 104 = .ok (.iastore, 1) := by decide +kernel
theorem dX4_join_105 : decode cX4_join 105 = .ok (.iinc 2 1, 3) := by decide +kernel
theorem dX4_join_108 : decode cX4_join 108 = .ok (.goto (-23), 3) := by decide +kernel
theorem dX4_join_111 : decode cX4_join 111 = .ok (.bipush 12, 2) := by decide +kernel
theorem dX4_join_113 : decode cX4_join 113 = .ok (.ireturn, 1) := by decide +kernel
theorem dX4_shift_0 : decode cX4_shift 0 = .ok (.bipush 16, 2) := by decide +kernel
theorem dX4_shift_2 : decode cX4_shift 2 = .ok (.iload_n 3, 1) := by decide +kernel
theorem dX4_shift_3 : decode cX4_shift 3 = .ok (.imul, 1) := by decide +kernel
theorem dX4_shift_4 : decode cX4_shift 4 = .ok (.bipush 15, 2) := by decide +kernel
theorem dX4_shift_6 : decode cX4_shift 6 = .ok (.iadd, 1) := by decide +kernel
theorem dX4_shift_7 : decode cX4_shift 7 = .ok (.istore 4, 2) := by decide +kernel
theorem dX4_shift_9 : decode cX4_shift 9 = .ok (.iload 4, 2) := by decide +kernel
theorem dX4_shift_11 : decode cX4_shift 11 = .ok (.bipush 16, 2) := by decide +kernel
theorem dX4_shift_13 : decode cX4_shift 13 = .ok (.if_icmp .lt 24, 3) := by decide +kernel
theorem dX4_shift_16 : decode cX4_shift 16 = .ok (.aload_n 1, 1) := by decide +kernel
theorem dX4_shift_17 : decode cX4_shift 17 = .ok (.iload_n 2, 1) := by decide +kernel
theorem dX4_shift_18 : decode cX4_shift 18 = .ok (.iload 4, 2) := by decide +kernel
theorem dX4_shift_20 : decode cX4_shift 20 = .ok (.iadd, 1) := by decide +kernel
theorem dX4_shift_21 : decode cX4_shift 21 = .ok (.aload_n 1, 1) := by decide +kernel
theorem dX4_shift_22 : decode cX4_shift 22 = .ok (.iload_n 2, 1) := by decide +kernel
theorem dX4_shift_23 : decode cX4_shift 23 = .ok (.iload 4, 2) := by decide +kernel
theorem dX4_shift_25 : decode cX4_shift 25 = .ok (.iadd, 1) := by decide +kernel
theorem dX4_shift_26 : decode cX4_shift 26 = .ok (.bipush 16, 2) := by decide +kernel
theorem dX4_shift_28 : decode cX4_shift 28 = .ok (.isub, 1) := by decide +kernel
theorem dX4_shift_29 : decode cX4_shift 29 = .ok (.iaload, 1) := by decide +kernel
theorem dX4_shift_30 : decode cX4_shift 30 = .ok (.iastore, 1) := by decide +kernel
theorem dX4_shift_31 : decode cX4_shift 31 = .ok (.iinc 4 (-1), 3) := by decide +kernel
theorem dX4_shift_34 : decode cX4_shift 34 = .ok (.goto (-25), 3) := by decide +kernel
theorem dX4_shift_37 : decode cX4_shift 37 = .ok (.iconst 0, 1) := by decide +kernel
theorem dX4_shift_38 : decode cX4_shift 38 = .ok (.istore 4, 2) := by decide +kernel
theorem dX4_shift_40 : decode cX4_shift 40 = .ok (.iload 4, 2) := by decide +kernel
theorem dX4_shift_42 : decode cX4_shift 42 = .ok (.bipush 16, 2) := by decide +kernel
theorem dX4_shift_44 : decode cX4_shift 44 = .ok (.if_icmp .ge 22, 3) := by decide +kernel
theorem dX4_shift_47 : decode cX4_shift 47 = .ok (.aload_n 1, 1) := by decide +kernel
theorem dX4_shift_48 : decode cX4_shift 48 = .ok (.iload_n 2, 1) := by decide +kernel
theorem dX4_shift_49 : decode cX4_shift 49 = .ok (.iload 4, 2) := by decide +kernel
theorem dX4_shift_51 : decode cX4_shift 51 = .ok (.iadd, 1) := by decide +kernel
theorem dX4_shift_52 : decode cX4_shift 52 = .ok (.aload_n 0, 1) := by decide +kernel
theorem dX4_shift_53 : decode cX4_shift 53 = .ok (.getfield 53, 3) := by decide +kernel
theorem dX4_shift_56 : decode cX4_shift 56 = .ok (.iload 4, 2) := by decide +kernel
theorem dX4_shift_58 : decode cX4_shift 58 = .ok (.iaload, 1) := by decide +kernel
theorem dX4_shift_59 : decode cX4_shift 59 = .ok (.iastore, 1) := by decide +kernel
theorem dX4_shift_60 : decode cX4_shift 60 = .ok (.iinc 4 1, 3) := by decide +kernel
theorem dX4_shift_63 : decode cX4_shift 63 = .ok (.goto (-23), 3) := by decide +kernel
theorem dX4_shift_66 : decode cX4_shift 66 = .ok (.return_, 1) := by decide +kernel
theorem dX4_findOwn_0 : decode cX4_findOwn 0 = .ok (.iconst 0, 1) := by decide +kernel
theorem dX4_findOwn_1 : decode cX4_findOwn 1 = .ok (.istore_n 2, 1) := by decide +kernel
theorem dX4_findOwn_2 : decode cX4_findOwn 2 = .ok (.iload_n 2, 1) := by decide +kernel
theorem dX4_findOwn_3 : decode cX4_findOwn 3 = .ok (.aload_n 0, 1) := by decide +kernel
theorem dX4_findOwn_4 : decode cX4_findOwn 4 = .ok (.getfield 32, 3) := by decide +kernel
theorem dX4_findOwn_7 : decode cX4_findOwn 7 = .ok (.iload_n 1, 1) := by decide +kernel
theorem dX4_findOwn_8 : decode cX4_findOwn 8 = .ok (.iaload, 1) := by decide +kernel
theorem dX4_findOwn_9 : decode cX4_findOwn 9 = .ok (.if_icmp .ge 70, 3) := by decide +kernel
theorem dX4_findOwn_12 : decode cX4_findOwn 12 = .ok (.iconst 1, 1) := by decide +kernel
theorem dX4_findOwn_13 : decode cX4_findOwn 13 = .ok (.istore_n 3, 1) := by decide +kernel
theorem dX4_findOwn_14 : decode cX4_findOwn 14 = .ok (.iconst 0, 1) := by decide +kernel
theorem dX4_findOwn_15 : decode cX4_findOwn 15 = .ok (.istore 4, 2) := by decide +kernel
theorem dX4_findOwn_17 : decode cX4_findOwn 17 = .ok (.iload 4, 2) := by decide +kernel
theorem dX4_findOwn_19 : decode cX4_findOwn 19 = .ok (.bipush 16, 2) := by decide +kernel
theorem dX4_findOwn_21 : decode cX4_findOwn 21 = .ok (.if_icmp .ge 46, 3) := by decide +kernel
theorem dX4_findOwn_24 : decode cX4_findOwn 24 = .ok (.iload_n 3, 1) := by decide +kernel
theorem dX4_findOwn_25 : decode cX4_findOwn 25 = .ok (.ifCond .eq 34, 3) := by decide +kernel
theorem dX4_findOwn_28 : decode cX4_findOwn 28 = .ok (.aload_n 0, 1) := by decide +kernel
theorem dX4_findOwn_29 : decode cX4_findOwn 29 = .ok (.getfield 29, 3) := by decide +kernel
theorem dX4_findOwn_32 : decode cX4_findOwn 32 = .ok (.bipush 112, 2) := by decide +kernel
theorem dX4_findOwn_34 : decode cX4_findOwn 34 = .ok (.iload_n 1, 1) := by decide +kernel
theorem dX4_findOwn_35 : decode cX4_findOwn 35 = .ok (.imul, 1) := by decide +kernel
theorem dX4_findOwn_36 : decode cX4_findOwn 36 = .ok (.bipush 16, 2) := by decide +kernel
theorem dX4_findOwn_38 : decode cX4_findOwn 38 = .ok (.iload_n 2, 1) := by decide +kernel
theorem dX4_findOwn_39 : decode cX4_findOwn 39 = .ok (.imul, 1) := by decide +kernel
theorem dX4_findOwn_40 : decode cX4_findOwn 40 = .ok (.iadd, 1) := by decide +kernel
theorem dX4_findOwn_41 : decode cX4_findOwn 41 = .ok (.iload 4, 2) := by decide +kernel
theorem dX4_findOwn_43 : decode cX4_findOwn 43 = .ok (.iadd, 1) := by decide +kernel
theorem dX4_findOwn_44 : decode cX4_findOwn 44 = .ok (.iaload, 1) := by decide +kernel
theorem dX4_findOwn_45 : decode cX4_findOwn 45 = .ok (.aload_n 0, 1) := by decide +kernel
theorem dX4_findOwn_46 : decode cX4_findOwn 46 = .ok (.getfield 53, 3) := by decide +kernel
theorem dX4_findOwn_49 : decode cX4_findOwn 49 = .ok (.iload 4, 2) := by decide +kernel
theorem dX4_findOwn_51 : decode cX4_findOwn 51 = .ok (.iaload, 1) := by decide +kernel
theorem dX4_findOwn_52 : decode cX4_findOwn 52 = .ok (.if_icmp .ne 7, 3) := by decide +kernel
theorem dX4_findOwn_55 : decode cX4_findOwn 55 = .ok (.iconst 1, 1) := by decide +kernel
theorem dX4_findOwn_56 : decode cX4_findOwn 56 = .ok (.goto 4, 3) := by decide +kernel
theorem dX4_findOwn_59 : decode cX4_findOwn 59 = .ok (.iconst 0, 1) := by decide +kernel
theorem dX4_findOwn_60 : decode cX4_findOwn 60 = .ok (.istore_n 3, 1) := by decide +kernel
theorem dX4_findOwn_61 : decode cX4_findOwn 61 = .ok (.iinc 4 1, 3) := by decide +kernel
theorem dX4_findOwn_64 : decode cX4_findOwn 64 = .ok (.goto (-47), 3) := by decide +kernel
theorem dX4_findOwn_67 : decode cX4_findOwn 67 = .ok (.iload_n 3, 1) := by decide +kernel
theorem dX4_findOwn_68 : decode cX4_findOwn 68 = .ok (.ifCond .eq 5, 3) := by decide +kernel
theorem dX4_findOwn_71 : decode cX4_findOwn 71 = .ok (.iload_n 2, 1) := by decide +kernel
theorem dX4_findOwn_72 : decode cX4_findOwn 72 = .ok (.ireturn, 1) := by decide +kernel
theorem dX4_findOwn_73 : decode cX4_findOwn 73 = .ok (.iinc 2 1, 3) := by decide +kernel
theorem dX4_findOwn_76 : decode cX4_findOwn 76 = .ok (.goto (-74), 3) := by decide +kernel
theorem dX4_findOwn_79 : decode cX4_findOwn 79 = .ok (.iconst (-1), 1) := by decide +kernel
theorem dX4_findOwn_80 : decode cX4_findOwn 80 = .ok (.ireturn, 1) := by decide +kernel
set_option maxRecDepth 20000 in
theorem ggX4_cache_X4_find : GoodIn wsX4_cache wsX4_find := goodIn_r _ [7, 2, 1, 8, 13, 14, 15, 16, 17, 18, 19, 20, 21, 22, 23, 24, 25, 26, 27, 28, 29] (by decide +kernel) (by decide +kernel)
set_option maxRecDepth 20000 in
theorem gX4_cache_X4_find : GoodIn wsX4_cache (wsV RX4 104 RX4 yX4_find wsX4_find) := goodIn_app (goodIn_of _ (by decide +kernel)) ggX4_cache_X4_find
set_option maxRecDepth 20000 in
theorem ggX4_cache_X4_shift : GoodIn wsX4_cache wsX4_shift := goodIn_r _ [12, 8, 13, 14, 15, 16, 17, 18, 19, 20, 21, 22, 23, 24, 25, 26, 27, 28, 29] (by decide +kernel) (by decide +kernel)
set_option maxRecDepth 20000 in
theorem gX4_cache_X4_shift : GoodIn wsX4_cache (wsV RX4 118 RX4 yX4_shift wsX4_shift) := goodIn_app (goodIn_of _ (by decide +kernel)) ggX4_cache_X4_shift
theorem dX4_cache_0 : decode cX4_cache 0 = .ok (.aload_n 0, 1) := by decide +kernel
theorem dX4_cache_1 : decode cX4_cache 1 = .ok (.iload_n 1, 1) := by decide +kernel
theorem dX4_cache_2 : decode cX4_cache 2 = .ok (.invokevirtual 104, 3) := by decide +kernel
theorem dX4_cache_5 : decode cX4_cache 5 = .ok (.istore_n 2, 1) := by decide +kernel
theorem dX4_cache_6 : decode cX4_cache 6 = .ok (.aload_n 0, 1) := by decide +kernel
theorem dX4_cache_7 : decode cX4_cache 7 = .ok (.aload_n 0, 1) := by decide +kernel
theorem dX4_cache_8 : decode cX4_cache 8 = .ok (.getfield 23, 3) := by decide +kernel
theorem dX4_cache_11 : decode cX4_cache 11 = .ok (.bipush 112, 2) := by decide +kernel
theorem dX4_cache_13 : decode cX4_cache 13 = .ok (.iload_n 1, 1) := by decide +kernel
theorem dX4_cache_14 : decode cX4_cache 14 = .ok (.imul, 1) := by decide +kernel
theorem dX4_cache_15 : decode cX4_cache 15 = .ok (.iload_n 2, 1) := by decide +kernel
theorem dX4_cache_16 : decode cX4_cache 16 = .ok (.iconst (-1), 1) := by decide +kernel
theorem dX4_cache_17 : decode cX4_cache 17 = .ok (.if_icmp .ne 12, 3) := by decide +kernel
theorem dX4_cache_20 : decode cX4_cache 20 = .ok (.aload_n 0, 1) := by decide +kernel
theorem dX4_cache_21 : decode cX4_cache 21 = .ok (.getfield 26, 3) := by decide +kernel
theorem dX4_cache_24 : decode cX4_cache 24 = .ok (.iload_n 1, 1) := by decide +kernel
theorem dX4_cache_25 : decode cX4_cache 25 = .ok (.iaload, 1) := by decide +kernel
theorem dX4_cache_26 : decode cX4_cache 26 = .ok (.goto 4, 3) := by decide +kernel
theorem dX4_cache_29 : decode cX4_cache 29 = .ok (.iload_n 2, 1) := by decide +kernel
theorem dX4_cache_30 : decode cX4_cache 30 = .ok (.invokevirtual 118, 3) := by decide +kernel
theorem dX4_cache_33 : decode cX4_cache 33 = .ok (.aload_n 0, 1) := by decide +kernel
theorem dX4_cache_34 : decode cX4_cache 34 = .ok (.getfield 26, 3) := by decide +kernel
theorem dX4_cache_37 : decode cX4_cache 37 = .ok (.iload_n 1, 1) := by decide +kernel
theorem dX4_cache_38 : decode cX4_cache 38 = .ok (.dup2, 1) := by decide +kernel
theorem dX4_cache_39 : decode cX4_cache 39 = .ok (.iaload, 1) := by decide +kernel
theorem dX4_cache_40 : decode cX4_cache 40 = .ok (.iload_n 2, 1) := by decide +kernel
theorem dX4_cache_41 : decode cX4_cache 41 = .ok (.iconst (-1), 1) := by decide +kernel
theorem dX4_cache_42 : decode cX4_cache 42 = .ok (.if_icmp .ne 18, 3) := by decide +kernel
theorem dX4_cache_45 : decode cX4_cache 45 = .ok (.aload_n 0, 1) := by decide +kernel
theorem dX4_cache_46 : decode cX4_cache 46 = .ok (.getfield 26, 3) := by decide +kernel
theorem dX4_cache_49 : decode cX4_cache 49 = .ok (.iload_n 1, 1) := by decide +kernel
theorem dX4_cache_50 : decode cX4_cache 50 = .ok (.iaload, 1) := by decide +kernel
theorem dX4_cache_51 : decode cX4_cache 51 = .ok (.bipush 6, 2) := by decide +kernel
theorem dX4_cache_53 : decode cX4_cache 53 = .ok (.if_icmp .ge 7, 3) := by decide +kernel
theorem dX4_cache_56 : decode cX4_cache 56 = .ok (.iconst 1, 1) := by decide +kernel
theorem dX4_cache_57 : decode cX4_cache 57 = .ok (.goto 4, 3) := by decide +kernel
theorem dX4_cache_60 : decode cX4_cache 60 = .ok (.iconst 0, 1) := by decide +kernel
theorem dX4_cache_61 : decode cX4_cache 61 = .ok (.iadd, 1) := by decide +kernel
theorem dX4_cache_62 : decode cX4_cache 62 = .ok (.iastore, 1) := by decide +kernel
theorem dX4_cache_63 : decode cX4_cache 63 = .ok (.return_, 1) := by decide +kernel
set_option maxRecDepth 20000 in
theorem ggX4_cacheOwn_X4_findOwn : GoodIn wsX4_cacheOwn wsX4_findOwn := goodIn_r _ [7, 2, 1, 8, 13, 14, 15, 16, 17, 18, 19, 20, 21, 22, 23, 24, 25, 26, 27, 28, 29] (by decide +kernel) (by decide +kernel)
set_option maxRecDepth 20000 in
theorem gX4_cacheOwn_X4_findOwn : GoodIn wsX4_cacheOwn (wsV RX4 122 RX4 yX4_findOwn wsX4_findOwn) := goodIn_app (goodIn_of _ (by decide +kernel)) ggX4_cacheOwn_X4_findOwn
set_option maxRecDepth 20000 in
theorem ggX4_cacheOwn_X4_shift : GoodIn wsX4_cacheOwn wsX4_shift := goodIn_r _ [12, 8, 13, 14, 15, 16, 17, 18, 19, 20, 21, 22, 23, 24, 25, 26, 27, 28, 29] (by decide +kernel) (by decide +kernel)
set_option maxRecDepth 20000 in
theorem gX4_cacheOwn_X4_shift : GoodIn wsX4_cacheOwn (wsV RX4 118 RX4 yX4_shift wsX4_shift) := goodIn_app (goodIn_of _ (by decide +kernel)) ggX4_cacheOwn_X4_shift
theorem dX4_cacheOwn_0 : decode cX4_cacheOwn 0 = .ok (.aload_n 0, 1) := by decide +kernel
theorem dX4_cacheOwn_1 : decode cX4_cacheOwn 1 = .ok (.iload_n 1, 1) := by decide +kernel
theorem dX4_cacheOwn_2 : decode cX4_cacheOwn 2 = .ok (.invokevirtual 122, 3) := by decide +kernel
theorem dX4_cacheOwn_5 : decode cX4_cacheOwn 5 = .ok (.istore_n 2, 1) := by decide +kernel
theorem dX4_cacheOwn_6 : decode cX4_cacheOwn 6 = .ok (.aload_n 0, 1) := by decide +kernel
theorem dX4_cacheOwn_7 : decode cX4_cacheOwn 7 = .ok (.aload_n 0, 1) := by decide +kernel
theorem dX4_cacheOwn_8 : decode cX4_cacheOwn 8 = .ok (.getfield 29, 3) := by decide +kernel
theorem dX4_cacheOwn_11 : decode cX4_cacheOwn 11 = .ok (.bipush 112, 2) := by decide +kernel
theorem dX4_cacheOwn_13 : decode cX4_cacheOwn 13 = .ok (.iload_n 1, 1) := by decide +kernel
theorem dX4_cacheOwn_14 : decode cX4_cacheOwn 14 = .ok (.imul, 1) := by decide +kernel
theorem dX4_cacheOwn_15 : decode cX4_cacheOwn 15 = .ok (.iload_n 2, 1) := by decide +kernel
theorem dX4_cacheOwn_16 : decode cX4_cacheOwn 16 = .ok (.iconst (-1), 1) := by decide +kernel
theorem dX4_cacheOwn_17 : decode cX4_cacheOwn 17 = .ok (.if_icmp .ne 12, 3) := by decide +kernel
theorem dX4_cacheOwn_20 : decode cX4_cacheOwn 20 = .ok (.aload_n 0, 1) := by decide +kernel
theorem dX4_cacheOwn_21 : decode cX4_cacheOwn 21 = .ok (.getfield 32, 3) := by decide +kernel
theorem dX4_cacheOwn_24 : decode cX4_cacheOwn 24 = .ok (.iload_n 1, 1) := by decide +kernel
theorem dX4_cacheOwn_25 : decode cX4_cacheOwn 25 = .ok (.iaload, 1) := by decide +kernel
theorem dX4_cacheOwn_26 : decode cX4_cacheOwn 26 = .ok (.goto 4, 3) := by decide +kernel
theorem dX4_cacheOwn_29 : decode cX4_cacheOwn 29 = .ok (.iload_n 2, 1) := by decide +kernel
theorem dX4_cacheOwn_30 : decode cX4_cacheOwn 30 = .ok (.invokevirtual 118, 3) := by decide +kernel
theorem dX4_cacheOwn_33 : decode cX4_cacheOwn 33 = .ok (.aload_n 0, 1) := by decide +kernel
theorem dX4_cacheOwn_34 : decode cX4_cacheOwn 34 = .ok (.getfield 32, 3) := by decide +kernel
theorem dX4_cacheOwn_37 : decode cX4_cacheOwn 37 = .ok (.iload_n 1, 1) := by decide +kernel
theorem dX4_cacheOwn_38 : decode cX4_cacheOwn 38 = .ok (.dup2, 1) := by decide +kernel
theorem dX4_cacheOwn_39 : decode cX4_cacheOwn 39 = .ok (.iaload, 1) := by decide +kernel
theorem dX4_cacheOwn_40 : decode cX4_cacheOwn 40 = .ok (.iload_n 2, 1) := by decide +kernel
theorem dX4_cacheOwn_41 : decode cX4_cacheOwn 41 = .ok (.iconst (-1), 1) := by decide +kernel
theorem dX4_cacheOwn_42 : decode cX4_cacheOwn 42 = .ok (.if_icmp .ne 18, 3) := by decide +kernel
theorem dX4_cacheOwn_45 : decode cX4_cacheOwn 45 = .ok (.aload_n 0, 1) := by decide +kernel
theorem dX4_cacheOwn_46 : decode cX4_cacheOwn 46 = .ok (.getfield 32, 3) := by decide +kernel
theorem dX4_cacheOwn_49 : decode cX4_cacheOwn 49 = .ok (.iload_n 1, 1) := by decide +kernel
theorem dX4_cacheOwn_50 : decode cX4_cacheOwn 50 = .ok (.iaload, 1) := by decide +kernel
theorem dX4_cacheOwn_51 : decode cX4_cacheOwn 51 = .ok (.bipush 6, 2) := by decide +kernel
theorem dX4_cacheOwn_53 : decode cX4_cacheOwn 53 = .ok (.if_icmp .ge 7, 3) := by decide +kernel
theorem dX4_cacheOwn_56 : decode cX4_cacheOwn 56 = .ok (.iconst 1, 1) := by decide +kernel
theorem dX4_cacheOwn_57 : decode cX4_cacheOwn 57 = .ok (.goto 4, 3) := by decide +kernel
theorem dX4_cacheOwn_60 : decode cX4_cacheOwn 60 = .ok (.iconst 0, 1) := by decide +kernel
theorem dX4_cacheOwn_61 : decode cX4_cacheOwn 61 = .ok (.iadd, 1) := by decide +kernel
theorem dX4_cacheOwn_62 : decode cX4_cacheOwn 62 = .ok (.iastore, 1) := by decide +kernel
theorem dX4_cacheOwn_63 : decode cX4_cacheOwn 63 = .ok (.return_, 1) := by decide +kernel
set_option maxRecDepth 20000 in
theorem ggX4_write_X4_look : GoodIn wsX4_write wsX4_look := goodIn_r _ [13, 7, 14, 15, 16, 12, 17, 50, 51, 52, 53, 54, 55, 56, 57, 58, 59, 60, 61, 62, 63, 64, 65, 66] (by decide +kernel) (by decide +kernel)
set_option maxRecDepth 20000 in
theorem gX4_write_X4_look : GoodIn wsX4_write (wsV RX4 94 RX4 yX4_look wsX4_look) := goodIn_app (goodIn_of _ (by decide +kernel)) ggX4_write_X4_look
set_option maxRecDepth 20000 in
theorem ggX4_write_X4_wayOf : GoodIn wsX4_write wsX4_wayOf := goodIn_r _ [21, 22, 23, 24, 12, 25, 7, 26, 27, 28, 29, 30, 31, 32, 33, 34, 35, 36, 37, 38, 39, 40, 41, 50, 51, 52, 53, 54, 55, 56, 57, 58, 59, 60, 61, 62, 63, 64, 65, 66] (by decide +kernel) (by decide +kernel)
set_option maxRecDepth 20000 in
theorem gX4_write_X4_wayOf : GoodIn wsX4_write (wsV RX4 115 RX4 yX4_wayOf wsX4_wayOf) := goodIn_app (goodIn_of _ (by decide +kernel)) ggX4_write_X4_wayOf
set_option maxRecDepth 20000 in
theorem ggX4_write_X4_cache : GoodIn wsX4_write wsX4_cache := goodIn_r _ [45, 31, 30, 26, 27, 28, 12, 29, 7, 46, 47, 48, 49, 50, 51, 52, 53, 54, 55, 56, 57, 58, 59, 60, 61, 62, 63, 64, 65, 66] (by decide +kernel) (by decide +kernel)
set_option maxRecDepth 20000 in
theorem gX4_write_X4_cache : GoodIn wsX4_write (wsV RX4 125 RX4 yX4_cache wsX4_cache) := goodIn_app (goodIn_of _ (by decide +kernel)) ggX4_write_X4_cache
theorem dX4_write_0 : decode cX4_write 0 = .ok (.aload_n 0, 1) := by decide +kernel
theorem dX4_write_1 : decode cX4_write 1 = .ok (.getfield 35, 3) := by decide +kernel
theorem dX4_write_4 : decode cX4_write 4 = .ok (.bipush 12, 2) := by decide +kernel
theorem dX4_write_6 : decode cX4_write 6 = .ok (.iload_n 1, 1) := by decide +kernel
theorem dX4_write_7 : decode cX4_write 7 = .ok (.imul, 1) := by decide +kernel
theorem dX4_write_8 : decode cX4_write 8 = .ok (.iaload, 1) := by decide +kernel
theorem dX4_write_9 : decode cX4_write 9 = .ok (.istore_n 3, 1) := by decide +kernel
theorem dX4_write_10 : decode cX4_write 10 = .ok (.aload_n 0, 1) := by decide +kernel
theorem dX4_write_11 : decode cX4_write 11 = .ok (.iload_n 3, 1) := by decide +kernel
theorem dX4_write_12 : decode cX4_write 12 = .ok (.invokevirtual 94, 3) := by decide +kernel
theorem dX4_write_15 : decode cX4_write 15 = .ok (.aload_n 0, 1) := by decide +kernel
theorem dX4_write_16 : decode cX4_write 16 = .ok (.iload_n 1, 1) := by decide +kernel
theorem dX4_write_17 : decode cX4_write 17 = .ok (.invokevirtual 115, 3) := by decide +kernel
theorem dX4_write_20 : decode cX4_write 20 = .ok (.istore 4, 2) := by decide +kernel
theorem dX4_write_22 : decode cX4_write 22 = .ok (.iload 4, 2) := by decide +kernel
theorem dX4_write_24 : decode cX4_write 24 = .ok (.bipush 100, 2) := by decide +kernel
theorem dX4_write_26 : decode cX4_write 26 = .ok (.irem, 1) := by decide +kernel
theorem dX4_write_27 : decode cX4_write 27 = .ok (.iload_n 2, 1) := by decide +kernel
theorem dX4_write_28 : decode cX4_write 28 = .ok (.if_icmp .le 5, 3) := by decide +kernel
theorem dX4_write_31 : decode cX4_write 31 = .ok (.iconst (-1), 1) := by decide +kernel
theorem dX4_write_32 : decode cX4_write 32 = .ok (.ireturn, 1) := by decide +kernel
theorem dX4_write_33 : decode cX4_write 33 = .ok (.aload_n 0, 1) := by decide +kernel
theorem dX4_write_34 : decode cX4_write 34 = .ok (.iload_n 1, 1) := by decide +kernel
theorem dX4_write_35 : decode cX4_write 35 = .ok (.invokevirtual 125, 3) := by decide +kernel
theorem dX4_write_38 : decode cX4_write 38 = .ok (.aload_n 0, 1) := by decide +kernel
theorem dX4_write_39 : decode cX4_write 39 = .ok (.getfield 50, 3) := by decide +kernel
theorem dX4_write_42 : decode cX4_write 42 = .ok (.iload 4, 2) := by decide +kernel
theorem dX4_write_44 : decode cX4_write 44 = .ok (.bipush 100, 2) := by decide +kernel
theorem dX4_write_46 : decode cX4_write 46 = .ok (.idiv, 1) := by decide +kernel
theorem dX4_write_47 : decode cX4_write 47 = .ok (.dup2, 1) := by decide +kernel
theorem dX4_write_48 : decode cX4_write 48 = .ok (.iaload, 1) := by decide +kernel
theorem dX4_write_49 : decode cX4_write 49 = .ok (.iconst 1, 1) := by decide +kernel
theorem dX4_write_50 : decode cX4_write 50 = .ok (.iadd, 1) := by decide +kernel
theorem dX4_write_51 : decode cX4_write 51 = .ok (.iastore, 1) := by decide +kernel
theorem dX4_write_52 : decode cX4_write 52 = .ok (.aload_n 0, 1) := by decide +kernel
theorem dX4_write_53 : decode cX4_write 53 = .ok (.dup, 1) := by decide +kernel
theorem dX4_write_54 : decode cX4_write 54 = .ok (.getfield 128, 3) := by decide +kernel
theorem dX4_write_57 : decode cX4_write 57 = .ok (.iload 4, 2) := by decide +kernel
theorem dX4_write_59 : decode cX4_write 59 = .ok (.bipush 100, 2) := by decide +kernel
theorem dX4_write_61 : decode cX4_write 61 = .ok (.irem, 1) := by decide +kernel
theorem dX4_write_62 : decode cX4_write 62 = .ok (.iadd, 1) := by decide +kernel
theorem dX4_write_63 : decode cX4_write 63 = .ok (.putfield 128, 3) := by decide +kernel
theorem dX4_write_66 : decode cX4_write 66 = .ok (.bipush 12, 2) := by decide +kernel
theorem dX4_write_68 : decode cX4_write 68 = .ok (.iload_n 1, 1) := by decide +kernel
theorem dX4_write_69 : decode cX4_write 69 = .ok (.imul, 1) := by decide +kernel
theorem dX4_write_70 : decode cX4_write 70 = .ok (.aload_n 0, 1) := by decide +kernel
theorem dX4_write_71 : decode cX4_write 71 = .ok (.getfield 47, 3) := by decide +kernel
theorem dX4_write_74 : decode cX4_write 74 = .ok (.iload_n 1, 1) := by decide +kernel
theorem dX4_write_75 : decode cX4_write 75 = .ok (.iaload, 1) := by decide +kernel
theorem dX4_write_76 : decode cX4_write 76 = .ok (.iadd, 1) := by decide +kernel
theorem dX4_write_77 : decode cX4_write 77 = .ok (.istore 5, 2) := by decide +kernel
theorem dX4_write_79 : decode cX4_write 79 = .ok (.aload_n 0, 1) := by decide +kernel
theorem dX4_write_80 : decode cX4_write 80 = .ok (.getfield 41, 3) := by decide +kernel
theorem dX4_write_83 : decode cX4_write 83 = .ok (.iload 5, 2) := by decide +kernel
theorem dX4_write_85 : decode cX4_write 85 = .ok (.iload_n 3, 1) := by decide +kernel
theorem dX4_write_86 : decode cX4_write 86 = .ok (.iastore, 1) := by decide +kernel
theorem dX4_write_87 : decode cX4_write 87 = .ok (.iconst 0, 1) := by decide +kernel
theorem dX4_write_88 : decode cX4_write 88 = .ok (.istore 6, 2) := by decide +kernel
theorem dX4_write_90 : decode cX4_write 90 = .ok (.iload 6, 2) := by decide +kernel
theorem dX4_write_92 : decode cX4_write 92 = .ok (.bipush 16, 2) := by decide +kernel
theorem dX4_write_94 : decode cX4_write 94 = .ok (.if_icmp .ge 29, 3) := by decide +kernel
theorem dX4_write_97 : decode cX4_write 97 = .ok (.aload_n 0, 1) := by decide +kernel
theorem dX4_write_98 : decode cX4_write 98 = .ok (.getfield 44, 3) := by decide +kernel
theorem dX4_write_101 : decode cX4_write 101 = .ok (.bipush 16, 2) := by decide +kernel
theorem dX4_write_103 : decode cX4_write 103 = .ok (.iload 5, 2) := by decide +kernel
theorem dX4_write_105 : decode cX4_write 105 = .ok (.imul, 1) := by decide +kernel
theorem dX4_write_106 : decode cX4_write 106 = .ok (.iload 6, 2) := by decide +kernel
theorem dX4_write_108 : decode cX4_write 108 = .ok (.iadd, 1) := by decide +kernel
theorem dX4_write_109 : decode cX4_write 109 = .ok (.aload_n 0, 1) := by decide +kernel
theorem dX4_write_110 : decode cX4_write 110 = .ok (.getfield 53, 3) := by decide +kernel
theorem dX4_write_113 : decode cX4_write 113 = .ok (.iload 6, 2) := by decide +kernel
theorem dX4_write_115 : decode cX4_write 115 = .ok (.iaload, 1) := by decide +kernel
theorem dX4_write_116 : decode cX4_write 116 = .ok (.iastore, 1) := by decide +kernel
theorem dX4_write_117 : decode cX4_write 117 = .ok (.iinc 6 1, 3) := by decide +kernel
theorem dX4_write_120 : decode cX4_write 120 = .ok (.goto (-30), 3) := by decide +kernel
theorem dX4_write_123 : decode cX4_write 123 = .ok (.aload_n 0, 1) := by decide +kernel
theorem dX4_write_124 : decode cX4_write 124 = .ok (.getfield 47, 3) := by decide +kernel
theorem dX4_write_127 : decode cX4_write 127 = .ok (.iload_n 1, 1) := by decide +kernel
theorem dX4_write_128 : decode cX4_write 128 = .ok (.dup2, 1) := by decide +kernel
theorem dX4_write_129 : decode cX4_write 129 = .ok (.iaload, 1) := by decide +kernel
theorem dX4_write_130 : decode cX4_write 130 = .ok (.iconst 1, 1) := by decide +kernel
theorem dX4_write_131 : decode cX4_write 131 = .ok (.iadd, 1) := by decide +kernel
theorem dX4_write_132 : decode cX4_write 132 = .ok (.iastore, 1) := by decide +kernel
theorem dX4_write_133 : decode cX4_write 133 = .ok (.aload_n 0, 1) := by decide +kernel
theorem dX4_write_134 : decode cX4_write 134 = .ok (.getfield 38, 3) := by decide +kernel
theorem dX4_write_137 : decode cX4_write 137 = .ok (.iload_n 1, 1) := by decide +kernel
theorem dX4_write_138 : decode cX4_write 138 = .ok (.dup2, 1) := by decide +kernel
theorem dX4_write_139 : decode cX4_write 139 = .ok (.iaload, 1) := by decide +kernel
theorem dX4_write_140 : decode cX4_write 140 = .ok (.iconst 1, 1) := by decide +kernel
theorem dX4_write_141 : decode cX4_write 141 = .ok (.isub, 1) := by decide +kernel
theorem dX4_write_142 : decode cX4_write 142 = .ok (.iastore, 1) := by decide +kernel
theorem dX4_write_143 : decode cX4_write 143 = .ok (.iconst 0, 1) := by decide +kernel
theorem dX4_write_144 : decode cX4_write 144 = .ok (.istore 6, 2) := by decide +kernel
theorem dX4_write_146 : decode cX4_write 146 = .ok (.iload 6, 2) := by decide +kernel
theorem dX4_write_148 : decode cX4_write 148 = .ok (.aload_n 0, 1) := by decide +kernel
theorem dX4_write_149 : decode cX4_write 149 = .ok (.getfield 38, 3) := by decide +kernel
theorem dX4_write_152 : decode cX4_write 152 = .ok (.iload_n 1, 1) := by decide +kernel
theorem dX4_write_153 : decode cX4_write 153 = .ok (.iaload, 1) := by decide +kernel
theorem dX4_write_154 : decode cX4_write 154 = .ok (.if_icmp .ge 35, 3) := by decide +kernel
theorem dX4_write_157 : decode cX4_write 157 = .ok (.aload_n 0, 1) := by decide +kernel
theorem dX4_write_158 : decode cX4_write 158 = .ok (.getfield 35, 3) := by decide +kernel
theorem dX4_write_161 : decode cX4_write 161 = .ok (.bipush 12, 2) := by decide +kernel
theorem dX4_write_163 : decode cX4_write 163 = .ok (.iload_n 1, 1) := by decide +kernel
theorem dX4_write_164 : decode cX4_write 164 = .ok (.imul, 1) := by decide +kernel
theorem dX4_write_165 : decode cX4_write 165 = .ok (.iload 6, 2) := by decide +kernel
theorem dX4_write_167 : decode cX4_write 167 = .ok (.iadd, 1) := by decide +kernel
theorem dX4_write_168 : decode cX4_write 168 = .ok (.aload_n 0, 1) := by decide +kernel
theorem dX4_write_169 : decode cX4_write 169 = .ok (.getfield 35, 3) := by decide +kernel
theorem dX4_write_172 : decode cX4_write 172 = .ok (.bipush 12, 2) := by decide +kernel
theorem dX4_write_174 : decode cX4_write 174 = .ok (.iload_n 1, 1) := by decide +kernel
theorem dX4_write_175 : decode cX4_write 175 = .ok (.imul, 1) := by decide +kernel
theorem dX4_write_176 : decode cX4_write 176 = .ok (.iload 6, 2) := by decide +kernel
theorem dX4_write_178 : decode cX4_write 178 = .ok (.iadd, 1) := by decide +kernel
theorem dX4_write_179 : decode cX4_write 179 = .ok (.iconst 1, 1) := by decide +kernel
theorem dX4_write_180 : decode cX4_write 180 = .ok (.iadd, 1) := by decide +kernel
theorem dX4_write_181 : decode cX4_write 181 = .ok (.iaload, 1) := by decide +kernel
theorem dX4_write_182 : decode cX4_write 182 = .ok (.iastore, 1) := by decide +kernel
theorem dX4_write_183 : decode cX4_write 183 = .ok (.iinc 6 1, 3) := by decide +kernel
theorem dX4_write_186 : decode cX4_write 186 = .ok (.goto (-40), 3) := by decide +kernel
theorem dX4_write_189 : decode cX4_write 189 = .ok (.iload_n 2, 1) := by decide +kernel
theorem dX4_write_190 : decode cX4_write 190 = .ok (.iload 4, 2) := by decide +kernel
theorem dX4_write_192 : decode cX4_write 192 = .ok (.bipush 100, 2) := by decide +kernel
theorem dX4_write_194 : decode cX4_write 194 = .ok (.irem, 1) := by decide +kernel
theorem dX4_write_195 : decode cX4_write 195 = .ok (.isub, 1) := by decide +kernel
theorem dX4_write_196 : decode cX4_write 196 = .ok (.ireturn, 1) := by decide +kernel
set_option maxRecDepth 20000 in
theorem ggX4_ask_X4_isClient : GoodIn wsX4_ask wsX4_isClient := goodIn_r _ [7, 8, 9, 6, 10] (by decide +kernel) (by decide +kernel)
set_option maxRecDepth 20000 in
theorem gX4_ask_X4_isClient : GoodIn wsX4_ask (va_wsS RX4 112 yX4_isClient wsX4_isClient) := goodIn_app (goodIn_of _ (by decide +kernel)) ggX4_ask_X4_isClient
set_option maxRecDepth 20000 in
theorem ggX4_ask_X4_in : GoodIn wsX4_ask wsX4_in := goodIn_r _ [10] (by decide +kernel) (by decide +kernel)
set_option maxRecDepth 20000 in
theorem gX4_ask_X4_in : GoodIn wsX4_ask (va_wsS RX4 60 yX4_in wsX4_in) := goodIn_app (goodIn_of _ (by decide +kernel)) ggX4_ask_X4_in
set_option maxRecDepth 20000 in
theorem ggX4_ask_X4_goesWell : GoodIn wsX4_ask wsX4_goesWell := goodIn_r _ [14, 15, 63, 64, 65, 66, 67, 68, 69, 70, 71, 72, 73, 74, 75, 76, 77, 78, 79] (by decide +kernel) (by decide +kernel)
set_option maxRecDepth 20000 in
theorem gX4_ask_X4_goesWell : GoodIn wsX4_ask (wsV RX4 80 RX4 yX4_goesWell wsX4_goesWell) := goodIn_app (goodIn_of _ (by decide +kernel)) ggX4_ask_X4_goesWell
set_option maxRecDepth 20000 in
theorem ggX4_ask_X4_write : GoodIn wsX4_ask wsX4_write := goodIn_r _ [19, 20, 21, 22, 2, 23, 24, 25, 3, 26, 27, 28, 6, 29, 30, 31, 32, 33, 34, 35, 36, 37, 38, 39, 40, 41, 42, 43, 44, 45, 46, 47, 48, 49, 50, 8, 9, 10, 51, 52, 53, 54, 55, 56, 57, 58, 59, 60, 61, 62, 63, 64, 65, 66, 67, 68, 69, 70, 71, 72, 73, 74, 75, 76, 77, 78, 79] (by decide +kernel) (by decide +kernel)
set_option maxRecDepth 20000 in
theorem gX4_ask_X4_write : GoodIn wsX4_ask (wsV RX4 131 RX4 yX4_write wsX4_write) := goodIn_app (goodIn_of _ (by decide +kernel)) ggX4_ask_X4_write
theorem dX4_ask_0 : decode cX4_ask 0 = .ok (.iload_n 1, 1) := by decide +kernel
theorem dX4_ask_1 : decode cX4_ask 1 = .ok (.invokestatic 112, 3) := by decide +kernel
theorem dX4_ask_4 : decode cX4_ask 4 = .ok (.ifCond .eq 18, 3) := by decide +kernel
theorem dX4_ask_7 : decode cX4_ask 7 = .ok (.iload_n 2, 1) := by decide +kernel
theorem dX4_ask_8 : decode cX4_ask 8 = .ok (.iconst 0, 1) := by decide +kernel
theorem dX4_ask_9 : decode cX4_ask 9 = .ok (.sipush 300, 3) := by decide +kernel
theorem dX4_ask_12 : decode cX4_ask 12 = .ok (.invokestatic 60, 3) := by decide +kernel
theorem dX4_ask_15 : decode cX4_ask 15 = .ok (.ifCond .eq 7, 3) := by decide +kernel
theorem dX4_ask_18 : decode cX4_ask 18 = .ok (.iconst 1, 1) := by decide +kernel
theorem dX4_ask_19 : decode cX4_ask 19 = .ok (.goto 4, 3) := by decide +kernel
theorem dX4_ask_22 : decode cX4_ask 22 = .ok (.iconst 0, 1) := by decide +kernel
theorem dX4_ask_23 : decode cX4_ask 23 = .ok (.istore_n 3, 1) := by decide +kernel
theorem dX4_ask_24 : decode cX4_ask 24 = .ok (.aload_n 0, 1) := by decide +kernel
theorem dX4_ask_25 : decode cX4_ask 25 = .ok (.iload_n 3, 1) := by decide +kernel
theorem dX4_ask_26 : decode cX4_ask 26 = .ok (.ifCond .ne 7, 3) := by decide +kernel
theorem dX4_ask_29 : decode cX4_ask 29 = .ok (.iconst 1, 1) := by decide +kernel
theorem dX4_ask_30 : decode cX4_ask 30 = .ok (.goto 26, 3) := by decide +kernel
theorem dX4_ask_33 : decode cX4_ask 33 = .ok (.aload_n 0, 1) := by decide +kernel
theorem dX4_ask_34 : decode cX4_ask 34 = .ok (.getfield 16, 3) := by decide +kernel
theorem dX4_ask_37 : decode cX4_ask 37 = .ok (.iload_n 1, 1) := by decide +kernel
theorem dX4_ask_38 : decode cX4_ask 38 = .ok (.baload, 1) := by decide +kernel
theorem dX4_ask_39 : decode cX4_ask 39 = .ok (.ifCond .eq 12, 3) := by decide +kernel
theorem dX4_ask_42 : decode cX4_ask 42 = .ok (.aload_n 0, 1) := by decide +kernel
theorem dX4_ask_43 : decode cX4_ask 43 = .ok (.getfield 47, 3) := by decide +kernel
theorem dX4_ask_46 : decode cX4_ask 46 = .ok (.iload_n 1, 1) := by decide +kernel
theorem dX4_ask_47 : decode cX4_ask 47 = .ok (.iaload, 1) := by decide +kernel
theorem dX4_ask_48 : decode cX4_ask 48 = .ok (.ifCond .le 7, 3) := by decide +kernel
theorem dX4_ask_51 : decode cX4_ask 51 = .ok (.iconst 2, 1) := by decide +kernel
theorem dX4_ask_52 : decode cX4_ask 52 = .ok (.goto 4, 3) := by decide +kernel
theorem dX4_ask_55 : decode cX4_ask 55 = .ok (.iconst 0, 1) := by decide +kernel
theorem dX4_ask_56 : decode cX4_ask 56 = .ok (.invokevirtual 80, 3) := by decide +kernel
theorem dX4_ask_59 : decode cX4_ask 59 = .ok (.ifCond .ne 5, 3) := by decide +kernel
theorem dX4_ask_62 : decode cX4_ask 62 = .ok (.iconst 0, 1) := by decide +kernel
theorem dX4_ask_63 : decode cX4_ask 63 = .ok (.ireturn, 1) := by decide +kernel
theorem dX4_ask_64 : decode cX4_ask 64 = .ok (.iload_n 2, 1) := by decide +kernel
theorem dX4_ask_65 : decode cX4_ask 65 = .ok (.istore 4, 2) := by decide +kernel
theorem dX4_ask_67 : decode cX4_ask 67 = .ok (.iload 4, 2) := by decide +kernel
theorem dX4_ask_69 : decode cX4_ask 69 = .ok (.iconst (-1), 1) := by decide +kernel
theorem dX4_ask_70 : decode cX4_ask 70 = .ok (.if_icmp .eq 24, 3) := by decide +kernel
theorem dX4_ask_73 : decode cX4_ask 73 = .ok (.aload_n 0, 1) := by decide +kernel
theorem dX4_ask_74 : decode cX4_ask 74 = .ok (.getfield 38, 3) := by decide +kernel
theorem dX4_ask_77 : decode cX4_ask 77 = .ok (.iload_n 1, 1) := by decide +kernel
theorem dX4_ask_78 : decode cX4_ask 78 = .ok (.iaload, 1) := by decide +kernel
theorem dX4_ask_79 : decode cX4_ask 79 = .ok (.ifCond .le 15, 3) := by decide +kernel
theorem dX4_ask_82 : decode cX4_ask 82 = .ok (.aload_n 0, 1) := by decide +kernel
theorem dX4_ask_83 : decode cX4_ask 83 = .ok (.iload_n 1, 1) := by decide +kernel
theorem dX4_ask_84 : decode cX4_ask 84 = .ok (.iload 4, 2) := by decide +kernel
theorem dX4_ask_86 : decode cX4_ask 86 = .ok (.invokevirtual 131, 3) := by decide +kernel
theorem dX4_ask_89 : decode cX4_ask 89 = .ok (.istore 4, 2) := by decide +kernel
theorem dX4_ask_91 : decode cX4_ask 91 = .ok (.goto (-24), 3) := by decide +kernel
theorem dX4_ask_94 : decode cX4_ask 94 = .ok (.aload_n 0, 1) := by decide +kernel
theorem dX4_ask_95 : decode cX4_ask 95 = .ok (.getfield 47, 3) := by decide +kernel
theorem dX4_ask_98 : decode cX4_ask 98 = .ok (.iload_n 1, 1) := by decide +kernel
theorem dX4_ask_99 : decode cX4_ask 99 = .ok (.iaload, 1) := by decide +kernel
theorem dX4_ask_100 : decode cX4_ask 100 = .ok (.ireturn, 1) := by decide +kernel
set_option maxRecDepth 20000 in
theorem ggX4_answer_X4_isClient : GoodIn wsX4_answer wsX4_isClient := goodIn_r _ [10, 11, 12, 9, 13] (by decide +kernel) (by decide +kernel)
set_option maxRecDepth 20000 in
theorem gX4_answer_X4_isClient : GoodIn wsX4_answer (va_wsS RX4 112 yX4_isClient wsX4_isClient) := goodIn_app (goodIn_of _ (by decide +kernel)) ggX4_answer_X4_isClient
set_option maxRecDepth 20000 in
theorem ggX4_answer_X4_goesWell : GoodIn wsX4_answer wsX4_goesWell := goodIn_r _ [17, 18, 36, 37, 38, 39, 40, 41, 42, 43, 44, 45, 46, 47, 48, 49, 50, 51, 52] (by decide +kernel) (by decide +kernel)
set_option maxRecDepth 20000 in
theorem gX4_answer_X4_goesWell : GoodIn wsX4_answer (wsV RX4 80 RX4 yX4_goesWell wsX4_goesWell) := goodIn_app (goodIn_of _ (by decide +kernel)) ggX4_answer_X4_goesWell
set_option maxRecDepth 20000 in
theorem ggX4_answer_X4_cellOf : GoodIn wsX4_answer wsX4_cellOf := goodIn_r _ [21] (by decide +kernel) (by decide +kernel)
set_option maxRecDepth 20000 in
theorem gX4_answer_X4_cellOf : GoodIn wsX4_answer (va_wsS RX4 68 yX4_cellOf wsX4_cellOf) := goodIn_app (goodIn_of _ (by decide +kernel)) ggX4_answer_X4_cellOf
set_option maxRecDepth 20000 in
theorem ggX4_answer_X4_cacheOwn : GoodIn wsX4_answer wsX4_cacheOwn := goodIn_r _ [25, 26, 27, 28, 29, 30, 9, 31, 3, 32, 33, 34, 35, 36, 37, 38, 39, 40, 41, 42, 43, 44, 45, 46, 47, 48, 49, 50, 51, 52] (by decide +kernel) (by decide +kernel)
set_option maxRecDepth 20000 in
theorem gX4_answer_X4_cacheOwn : GoodIn wsX4_answer (wsV RX4 134 RX4 yX4_cacheOwn wsX4_cacheOwn) := goodIn_app (goodIn_of _ (by decide +kernel)) ggX4_answer_X4_cacheOwn
theorem dX4_answer_0 : decode cX4_answer 0 = .ok (.aload_n 0, 1) := by decide +kernel
theorem dX4_answer_1 : decode cX4_answer 1 = .ok (.iload_n 1, 1) := by decide +kernel
theorem dX4_answer_2 : decode cX4_answer 2 = .ok (.invokestatic 112, 3) := by decide +kernel
theorem dX4_answer_5 : decode cX4_answer 5 = .ok (.ifCond .ne 7, 3) := by decide +kernel
theorem dX4_answer_8 : decode cX4_answer 8 = .ok (.iconst 1, 1) := by decide +kernel
theorem dX4_answer_9 : decode cX4_answer 9 = .ok (.goto 26, 3) := by decide +kernel
theorem dX4_answer_12 : decode cX4_answer 12 = .ok (.aload_n 0, 1) := by decide +kernel
theorem dX4_answer_13 : decode cX4_answer 13 = .ok (.getfield 16, 3) := by decide +kernel
theorem dX4_answer_16 : decode cX4_answer 16 = .ok (.iload_n 1, 1) := by decide +kernel
theorem dX4_answer_17 : decode cX4_answer 17 = .ok (.baload, 1) := by decide +kernel
theorem dX4_answer_18 : decode cX4_answer 18 = .ok (.ifCond .eq 12, 3) := by decide +kernel
theorem dX4_answer_21 : decode cX4_answer 21 = .ok (.aload_n 0, 1) := by decide +kernel
theorem dX4_answer_22 : decode cX4_answer 22 = .ok (.getfield 47, 3) := by decide +kernel
theorem dX4_answer_25 : decode cX4_answer 25 = .ok (.iload_n 1, 1) := by decide +kernel
theorem dX4_answer_26 : decode cX4_answer 26 = .ok (.iaload, 1) := by decide +kernel
theorem dX4_answer_27 : decode cX4_answer 27 = .ok (.ifCond .ne 7, 3) := by decide +kernel
theorem dX4_answer_30 : decode cX4_answer 30 = .ok (.iconst 2, 1) := by decide +kernel
theorem dX4_answer_31 : decode cX4_answer 31 = .ok (.goto 4, 3) := by decide +kernel
theorem dX4_answer_34 : decode cX4_answer 34 = .ok (.iconst 0, 1) := by decide +kernel
theorem dX4_answer_35 : decode cX4_answer 35 = .ok (.invokevirtual 80, 3) := by decide +kernel
theorem dX4_answer_38 : decode cX4_answer 38 = .ok (.ifCond .ne 5, 3) := by decide +kernel
theorem dX4_answer_41 : decode cX4_answer 41 = .ok (.iconst 0, 1) := by decide +kernel
theorem dX4_answer_42 : decode cX4_answer 42 = .ok (.ireturn, 1) := by decide +kernel
theorem dX4_answer_43 : decode cX4_answer 43 = .ok (.aload_n 0, 1) := by decide +kernel
theorem dX4_answer_44 : decode cX4_answer 44 = .ok (.getfield 47, 3) := by decide +kernel
theorem dX4_answer_47 : decode cX4_answer 47 = .ok (.iload_n 1, 1) := by decide +kernel
theorem dX4_answer_48 : decode cX4_answer 48 = .ok (.iaload, 1) := by decide +kernel
theorem dX4_answer_49 : decode cX4_answer 49 = .ok (.istore_n 2, 1) := by decide +kernel
theorem dX4_answer_50 : decode cX4_answer 50 = .ok (.iconst 0, 1) := by decide +kernel
theorem dX4_answer_51 : decode cX4_answer 51 = .ok (.istore_n 3, 1) := by decide +kernel
theorem dX4_answer_52 : decode cX4_answer 52 = .ok (.iload_n 3, 1) := by decide +kernel
theorem dX4_answer_53 : decode cX4_answer 53 = .ok (.iload_n 2, 1) := by decide +kernel
theorem dX4_answer_54 : decode cX4_answer 54 = .ok (.if_icmp .ge 88, 3) := by decide +kernel
theorem dX4_answer_57 : decode cX4_answer 57 = .ok (.bipush 12, 2) := by decide +kernel
theorem dX4_answer_59 : decode cX4_answer 59 = .ok (.iload_n 1, 1) := by decide +kernel
theorem dX4_answer_60 : decode cX4_answer 60 = .ok (.imul, 1) := by decide +kernel
theorem dX4_answer_61 : decode cX4_answer 61 = .ok (.iload_n 3, 1) := by decide +kernel
theorem dX4_answer_62 : decode cX4_answer 62 = .ok (.iadd, 1) := by decide +kernel
theorem dX4_answer_63 : decode cX4_answer 63 = .ok (.istore 4, 2) := by decide +kernel
theorem dX4_answer_65 : decode cX4_answer 65 = .ok (.iconst 0, 1) := by decide +kernel
theorem dX4_answer_66 : decode cX4_answer 66 = .ok (.istore 5, 2) := by decide +kernel
theorem dX4_answer_68 : decode cX4_answer 68 = .ok (.iload 5, 2) := by decide +kernel
theorem dX4_answer_70 : decode cX4_answer 70 = .ok (.bipush 16, 2) := by decide +kernel
theorem dX4_answer_72 : decode cX4_answer 72 = .ok (.if_icmp .ge 59, 3) := by decide +kernel
theorem dX4_answer_75 : decode cX4_answer 75 = .ok (.aload_n 0, 1) := by decide +kernel
theorem dX4_answer_76 : decode cX4_answer 76 = .ok (.getfield 53, 3) := by decide +kernel
theorem dX4_answer_79 : decode cX4_answer 79 = .ok (.iload 5, 2) := by decide +kernel
theorem dX4_answer_81 : decode cX4_answer 81 = .ok (.aload_n 0, 1) := by decide +kernel
theorem dX4_answer_82 : decode cX4_answer 82 = .ok (.getfield 44, 3) := by decide +kernel
theorem dX4_answer_85 : decode cX4_answer 85 = .ok (.bipush 16, 2) := by decide +kernel
theorem dX4_answer_87 : decode cX4_answer 87 = .ok (.iload 4, 2) := by decide +kernel
theorem dX4_answer_89 : decode cX4_answer 89 = .ok (.imul, 1) := by decide +kernel
theorem dX4_answer_90 : decode cX4_answer 90 = .ok (.iload 5, 2) := by decide +kernel
theorem dX4_answer_92 : decode cX4_answer 92 = .ok (.iadd, 1) := by decide +kernel
theorem dX4_answer_93 : decode cX4_answer 93 = .ok (.iaload, 1) := by decide +kernel
theorem dX4_answer_94 : decode cX4_answer 94 = .ok (.iastore, 1) := by decide +kernel
theorem dX4_answer_95 : decode cX4_answer 95 = .ok (.aload_n 0, 1) := by decide +kernel
theorem dX4_answer_96 : decode cX4_answer 96 = .ok (.getfield 20, 3) := by decide +kernel
theorem dX4_answer_99 : decode cX4_answer 99 = .ok (.sipush 192, 3) := by decide +kernel
theorem dX4_answer_102 : decode cX4_answer 102 = .ok (.iload_n 1, 1) := by decide +kernel
theorem dX4_answer_103 : decode cX4_answer 103 = .ok (.imul, 1) := by decide +kernel
theorem dX4_answer_104 : decode cX4_answer 104 = .ok (.aload_n 0, 1) := by decide +kernel
theorem dX4_answer_105 : decode cX4_answer 105 = .ok (.getfield 41, 3) := by decide +kernel
theorem dX4_answer_108 : decode cX4_answer 108 = .ok (.iload 4, 2) := by decide +kernel
theorem dX4_answer_110 : decode cX4_answer 110 = .ok (.iaload, 1) := by decide +kernel
theorem dX4_answer_111 : decode cX4_answer 111 = .ok (.iload 5, 2) := by decide +kernel
theorem dX4_answer_113 : decode cX4_answer 113 = .ok (.invokestatic 68, 3) := by decide +kernel
theorem dX4_answer_116 : decode cX4_answer 116 = .ok (.iadd, 1) := by decide +kernel
theorem dX4_answer_117 : decode cX4_answer 117 = .ok (.aload_n 0, 1) := by decide +kernel
theorem dX4_answer_118 : decode cX4_answer 118 = .ok (.getfield 53, 3) := by decide +kernel
theorem dX4_answer_121 : decode cX4_answer 121 = .ok (.iload 5, 2) := by decide +kernel
theorem dX4_answer_123 : decode cX4_answer 123 = .ok (.iaload, 1) := by decide +kernel
theorem dX4_answer_124 : decode cX4_answer 124 = .ok (.iastore, 1) := by decide +kernel
theorem dX4_answer_125 : decode cX4_answer 125 = .ok (.iinc 5 1, 3) := by decide +kernel
theorem dX4_answer_128 : decode cX4_answer 128 = .ok (.goto (-60), 3) := by decide +kernel
theorem dX4_answer_131 : decode cX4_answer 131 = .ok (.aload_n 0, 1) := by decide +kernel
theorem dX4_answer_132 : decode cX4_answer 132 = .ok (.iload_n 1, 1) := by decide +kernel
theorem dX4_answer_133 : decode cX4_answer 133 = .ok (.invokevirtual 134, 3) := by decide +kernel
theorem dX4_answer_136 : decode cX4_answer 136 = .ok (.iinc 3 1, 3) := by decide +kernel
theorem dX4_answer_139 : decode cX4_answer 139 = .ok (.goto (-87), 3) := by decide +kernel
theorem dX4_answer_142 : decode cX4_answer 142 = .ok (.aload_n 0, 1) := by decide +kernel
theorem dX4_answer_143 : decode cX4_answer 143 = .ok (.getfield 47, 3) := by decide +kernel
theorem dX4_answer_146 : decode cX4_answer 146 = .ok (.iload_n 1, 1) := by decide +kernel
theorem dX4_answer_147 : decode cX4_answer 147 = .ok (.iconst 0, 1) := by decide +kernel
theorem dX4_answer_148 : decode cX4_answer 148 = .ok (.iastore, 1) := by decide +kernel
theorem dX4_answer_149 : decode cX4_answer 149 = .ok (.iload_n 2, 1) := by decide +kernel
theorem dX4_answer_150 : decode cX4_answer 150 = .ok (.ireturn, 1) := by decide +kernel
set_option maxRecDepth 20000 in
theorem ggX4_shown_X4_isClient : GoodIn wsX4_shown wsX4_isClient := goodIn_r _ [6, 7, 8, 5, 9] (by decide +kernel) (by decide +kernel)
set_option maxRecDepth 20000 in
theorem gX4_shown_X4_isClient : GoodIn wsX4_shown (va_wsS RX4 112 yX4_isClient wsX4_isClient) := goodIn_app (goodIn_of _ (by decide +kernel)) ggX4_shown_X4_isClient
set_option maxRecDepth 20000 in
theorem ggX4_shown_X4_isCell : GoodIn wsX4_shown wsX4_isCell := goodIn_r _ [12, 7, 8, 5, 9] (by decide +kernel) (by decide +kernel)
set_option maxRecDepth 20000 in
theorem gX4_shown_X4_isCell : GoodIn wsX4_shown (va_wsS RX4 64 yX4_isCell wsX4_isCell) := goodIn_app (goodIn_of _ (by decide +kernel)) ggX4_shown_X4_isCell
set_option maxRecDepth 20000 in
theorem ggX4_shown_X4_goesWell : GoodIn wsX4_shown wsX4_goesWell := goodIn_r _ [16, 17, 18, 19, 20, 21, 22, 23, 24, 25, 26, 27, 28, 29, 30, 31, 32, 33, 34] (by decide +kernel) (by decide +kernel)
set_option maxRecDepth 20000 in
theorem gX4_shown_X4_goesWell : GoodIn wsX4_shown (wsV RX4 80 RX4 yX4_goesWell wsX4_goesWell) := goodIn_app (goodIn_of _ (by decide +kernel)) ggX4_shown_X4_goesWell
theorem dX4_shown_0 : decode cX4_shown 0 = .ok (.iload_n 1, 1) := by decide +kernel
theorem dX4_shown_1 : decode cX4_shown 1 = .ok (.invokestatic 112, 3) := by decide +kernel
theorem dX4_shown_4 : decode cX4_shown 4 = .ok (.ifCond .eq 15, 3) := by decide +kernel
theorem dX4_shown_7 : decode cX4_shown 7 = .ok (.iload_n 2, 1) := by decide +kernel
theorem dX4_shown_8 : decode cX4_shown 8 = .ok (.iload_n 3, 1) := by decide +kernel
theorem dX4_shown_9 : decode cX4_shown 9 = .ok (.invokestatic 64, 3) := by decide +kernel
theorem dX4_shown_12 : decode cX4_shown 12 = .ok (.ifCond .eq 7, 3) := by decide +kernel
theorem dX4_shown_15 : decode cX4_shown 15 = .ok (.iconst 1, 1) := by decide +kernel
theorem dX4_shown_16 : decode cX4_shown 16 = .ok (.goto 4, 3) := by decide +kernel
theorem dX4_shown_19 : decode cX4_shown 19 = .ok (.iconst 0, 1) := by decide +kernel
theorem dX4_shown_20 : decode cX4_shown 20 = .ok (.istore 4, 2) := by decide +kernel
theorem dX4_shown_22 : decode cX4_shown 22 = .ok (.aload_n 0, 1) := by decide +kernel
theorem dX4_shown_23 : decode cX4_shown 23 = .ok (.iload 4, 2) := by decide +kernel
theorem dX4_shown_25 : decode cX4_shown 25 = .ok (.ifCond .ne 7, 3) := by decide +kernel
theorem dX4_shown_28 : decode cX4_shown 28 = .ok (.iconst 1, 1) := by decide +kernel
theorem dX4_shown_29 : decode cX4_shown 29 = .ok (.goto 17, 3) := by decide +kernel
theorem dX4_shown_32 : decode cX4_shown 32 = .ok (.aload_n 0, 1) := by decide +kernel
theorem dX4_shown_33 : decode cX4_shown 33 = .ok (.getfield 16, 3) := by decide +kernel
theorem dX4_shown_36 : decode cX4_shown 36 = .ok (.iload_n 1, 1) := by decide +kernel
theorem dX4_shown_37 : decode cX4_shown 37 = .ok (.baload, 1) := by decide +kernel
theorem dX4_shown_38 : decode cX4_shown 38 = .ok (.ifCond .eq 7, 3) := by decide +kernel
theorem dX4_shown_41 : decode cX4_shown 41 = .ok (.iconst 0, 1) := by decide +kernel
theorem dX4_shown_42 : decode cX4_shown 42 = .ok (.goto 4, 3) := by decide +kernel
theorem dX4_shown_45 : decode cX4_shown 45 = .ok (.iconst 2, 1) := by decide +kernel
theorem dX4_shown_46 : decode cX4_shown 46 = .ok (.invokevirtual 80, 3) := by decide +kernel
theorem dX4_shown_49 : decode cX4_shown 49 = .ok (.ifCond .eq 23, 3) := by decide +kernel
theorem dX4_shown_52 : decode cX4_shown 52 = .ok (.aload_n 0, 1) := by decide +kernel
theorem dX4_shown_53 : decode cX4_shown 53 = .ok (.getfield 20, 3) := by decide +kernel
theorem dX4_shown_56 : decode cX4_shown 56 = .ok (.sipush 192, 3) := by decide +kernel
theorem dX4_shown_59 : decode cX4_shown 59 = .ok (.iload_n 1, 1) := by decide +kernel
theorem dX4_shown_60 : decode cX4_shown 60 = .ok (.imul, 1) := by decide +kernel
theorem dX4_shown_61 : decode cX4_shown 61 = .ok (.bipush 16, 2) := by decide +kernel
theorem dX4_shown_63 : decode cX4_shown 63 = .ok (.iload_n 3, 1) := by decide +kernel
theorem dX4_shown_64 : decode cX4_shown 64 = .ok (.imul, 1) := by decide +kernel
theorem dX4_shown_65 : decode cX4_shown 65 = .ok (.iadd, 1) := by decide +kernel
theorem dX4_shown_66 : decode cX4_shown 66 = .ok (.iload_n 2, 1) := by decide +kernel
theorem dX4_shown_67 : decode cX4_shown 67 = .ok (.iadd, 1) := by decide +kernel
theorem dX4_shown_68 : decode cX4_shown 68 = .ok (.iaload, 1) := by decide +kernel
theorem dX4_shown_69 : decode cX4_shown 69 = .ok (.goto 4, 3) := by decide +kernel
theorem dX4_shown_72 : decode cX4_shown 72 = .ok (.iconst 0, 1) := by decide +kernel
theorem dX4_shown_73 : decode cX4_shown 73 = .ok (.ireturn, 1) := by decide +kernel
set_option maxRecDepth 20000 in
theorem ggX4_isJoined_X4_isClient : GoodIn wsX4_isJoined wsX4_isClient := goodIn_r _ [5, 6, 7, 4, 8] (by decide +kernel) (by decide +kernel)
set_option maxRecDepth 20000 in
theorem gX4_isJoined_X4_isClient : GoodIn wsX4_isJoined (va_wsS RX4 112 yX4_isClient wsX4_isClient) := goodIn_app (goodIn_of _ (by decide +kernel)) ggX4_isJoined_X4_isClient
set_option maxRecDepth 20000 in
theorem ggX4_isJoined_X4_goesWell : GoodIn wsX4_isJoined wsX4_goesWell := goodIn_r _ [12, 13, 14, 15, 16, 17, 18, 19, 20, 21, 22, 23, 24, 25, 26, 27, 28, 29, 30] (by decide +kernel) (by decide +kernel)
set_option maxRecDepth 20000 in
theorem gX4_isJoined_X4_goesWell : GoodIn wsX4_isJoined (wsV RX4 80 RX4 yX4_goesWell wsX4_goesWell) := goodIn_app (goodIn_of _ (by decide +kernel)) ggX4_isJoined_X4_goesWell
theorem dX4_isJoined_0 : decode cX4_isJoined 0 = .ok (.aload_n 0, 1) := by decide +kernel
theorem dX4_isJoined_1 : decode cX4_isJoined 1 = .ok (.iload_n 1, 1) := by decide +kernel
theorem dX4_isJoined_2 : decode cX4_isJoined 2 = .ok (.invokestatic 112, 3) := by decide +kernel
theorem dX4_isJoined_5 : decode cX4_isJoined 5 = .ok (.ifCond .ne 7, 3) := by decide +kernel
theorem dX4_isJoined_8 : decode cX4_isJoined 8 = .ok (.iconst 1, 1) := by decide +kernel
theorem dX4_isJoined_9 : decode cX4_isJoined 9 = .ok (.goto 17, 3) := by decide +kernel
theorem dX4_isJoined_12 : decode cX4_isJoined 12 = .ok (.aload_n 0, 1) := by decide +kernel
theorem dX4_isJoined_13 : decode cX4_isJoined 13 = .ok (.getfield 16, 3) := by decide +kernel
theorem dX4_isJoined_16 : decode cX4_isJoined 16 = .ok (.iload_n 1, 1) := by decide +kernel
theorem dX4_isJoined_17 : decode cX4_isJoined 17 = .ok (.baload, 1) := by decide +kernel
theorem dX4_isJoined_18 : decode cX4_isJoined 18 = .ok (.ifCond .eq 7, 3) := by decide +kernel
theorem dX4_isJoined_21 : decode cX4_isJoined 21 = .ok (.iconst 0, 1) := by decide +kernel
theorem dX4_isJoined_22 : decode cX4_isJoined 22 = .ok (.goto 4, 3) := by decide +kernel
theorem dX4_isJoined_25 : decode cX4_isJoined 25 = .ok (.iconst 2, 1) := by decide +kernel
theorem dX4_isJoined_26 : decode cX4_isJoined 26 = .ok (.invokevirtual 80, 3) := by decide +kernel
theorem dX4_isJoined_29 : decode cX4_isJoined 29 = .ok (.ireturn, 1) := by decide +kernel
set_option maxRecDepth 20000 in
theorem ggX4_unlike_X4_isJoined : GoodIn wsX4_unlike wsX4_isJoined := goodIn_r _ [7, 8, 9, 10, 6, 11, 12, 13, 14, 15, 16, 17, 18, 19, 20, 21, 22, 23, 24, 25, 26, 27, 28, 29, 30, 31, 32, 33, 34, 35, 36] (by decide +kernel) (by decide +kernel)
set_option maxRecDepth 20000 in
theorem gX4_unlike_X4_isJoined : GoodIn wsX4_unlike (wsV RX4 137 RX4 yX4_isJoined wsX4_isJoined) := goodIn_app (goodIn_of _ (by decide +kernel)) ggX4_unlike_X4_isJoined
theorem dX4_unlike_0 : decode cX4_unlike 0 = .ok (.aload_n 0, 1) := by decide +kernel
theorem dX4_unlike_1 : decode cX4_unlike 1 = .ok (.iload_n 1, 1) := by decide +kernel
theorem dX4_unlike_2 : decode cX4_unlike 2 = .ok (.invokevirtual 137, 3) := by decide +kernel
theorem dX4_unlike_5 : decode cX4_unlike 5 = .ok (.ifCond .ne 5, 3) := by decide +kernel
theorem dX4_unlike_8 : decode cX4_unlike 8 = .ok (.iconst 0, 1) := by decide +kernel
theorem dX4_unlike_9 : decode cX4_unlike 9 = .ok (.ireturn, 1) := by decide +kernel
theorem dX4_unlike_10 : decode cX4_unlike 10 = .ok (.iconst 0, 1) := by decide +kernel
theorem dX4_unlike_11 : decode cX4_unlike 11 = .ok (.istore_n 2, 1) := by decide +kernel
theorem dX4_unlike_12 : decode cX4_unlike 12 = .ok (.iconst 0, 1) := by decide +kernel
theorem dX4_unlike_13 : decode cX4_unlike 13 = .ok (.istore_n 3, 1) := by decide +kernel
theorem dX4_unlike_14 : decode cX4_unlike 14 = .ok (.iload_n 3, 1) := by decide +kernel
theorem dX4_unlike_15 : decode cX4_unlike 15 = .ok (.sipush 192, 3) := by decide +kernel
theorem dX4_unlike_18 : decode cX4_unlike 18 = .ok (.if_icmp .ge 38, 3) := by decide +kernel
theorem dX4_unlike_21 : decode cX4_unlike 21 = .ok (.iload_n 2, 1) := by decide +kernel
theorem dX4_unlike_22 : decode cX4_unlike 22 = .ok (.aload_n 0, 1) := by decide +kernel
theorem dX4_unlike_23 : decode cX4_unlike 23 = .ok (.getfield 20, 3) := by decide +kernel
theorem dX4_unlike_26 : decode cX4_unlike 26 = .ok (.sipush 192, 3) := by decide +kernel
theorem dX4_unlike_29 : decode cX4_unlike 29 = .ok (.iload_n 1, 1) := by decide +kernel
theorem dX4_unlike_30 : decode cX4_unlike 30 = .ok (.imul, 1) := by decide +kernel
theorem dX4_unlike_31 : decode cX4_unlike 31 = .ok (.iload_n 3, 1) := by decide +kernel
theorem dX4_unlike_32 : decode cX4_unlike 32 = .ok (.iadd, 1) := by decide +kernel
theorem dX4_unlike_33 : decode cX4_unlike 33 = .ok (.iaload, 1) := by decide +kernel
theorem dX4_unlike_34 : decode cX4_unlike 34 = .ok (.aload_n 0, 1) := by decide +kernel
theorem dX4_unlike_35 : decode cX4_unlike 35 = .ok (.getfield 7, 3) := by decide +kernel
theorem dX4_unlike_38 : decode cX4_unlike 38 = .ok (.iload_n 3, 1) := by decide +kernel
theorem dX4_unlike_39 : decode cX4_unlike 39 = .ok (.iaload, 1) := by decide +kernel
theorem dX4_unlike_40 : decode cX4_unlike 40 = .ok (.if_icmp .ne 7, 3) := by decide +kernel
theorem dX4_unlike_43 : decode cX4_unlike 43 = .ok (.iconst 0, 1) := by decide +kernel
theorem dX4_unlike_44 : decode cX4_unlike 44 = .ok (.goto 4, 3) := by decide +kernel
theorem dX4_unlike_47 : decode cX4_unlike 47 = .ok (.iconst 1, 1) := by decide +kernel
theorem dX4_unlike_48 : decode cX4_unlike 48 = .ok (.iadd, 1) := by decide +kernel
theorem dX4_unlike_49 : decode cX4_unlike 49 = .ok (.istore_n 2, 1) := by decide +kernel
theorem dX4_unlike_50 : decode cX4_unlike 50 = .ok (.iinc 3 1, 3) := by decide +kernel
theorem dX4_unlike_53 : decode cX4_unlike 53 = .ok (.goto (-39), 3) := by decide +kernel
theorem dX4_unlike_56 : decode cX4_unlike 56 = .ok (.iload_n 2, 1) := by decide +kernel
theorem dX4_unlike_57 : decode cX4_unlike 57 = .ok (.ireturn, 1) := by decide +kernel
set_option maxRecDepth 20000 in
theorem ggX4_dirty_X4_isJoined : GoodIn wsX4_dirty wsX4_isJoined := goodIn_r _ [6, 7, 8, 9, 5, 10, 11, 12, 13, 14, 15, 16, 17, 18, 19, 20, 21, 22, 23, 24, 25, 26, 27, 28, 29, 30, 31, 32, 33, 34, 35] (by decide +kernel) (by decide +kernel)
set_option maxRecDepth 20000 in
theorem gX4_dirty_X4_isJoined : GoodIn wsX4_dirty (wsV RX4 137 RX4 yX4_isJoined wsX4_isJoined) := goodIn_app (goodIn_of _ (by decide +kernel)) ggX4_dirty_X4_isJoined
theorem dX4_dirty_0 : decode cX4_dirty 0 = .ok (.aload_n 0, 1) := by decide +kernel
theorem dX4_dirty_1 : decode cX4_dirty 1 = .ok (.iload_n 1, 1) := by decide +kernel
theorem dX4_dirty_2 : decode cX4_dirty 2 = .ok (.invokevirtual 137, 3) := by decide +kernel
theorem dX4_dirty_5 : decode cX4_dirty 5 = .ok (.ifCond .eq 12, 3) := by decide +kernel
theorem dX4_dirty_8 : decode cX4_dirty 8 = .ok (.aload_n 0, 1) := by decide +kernel
theorem dX4_dirty_9 : decode cX4_dirty 9 = .ok (.getfield 38, 3) := by decide +kernel
theorem dX4_dirty_12 : decode cX4_dirty 12 = .ok (.iload_n 1, 1) := by decide +kernel
theorem dX4_dirty_13 : decode cX4_dirty 13 = .ok (.iaload, 1) := by decide +kernel
theorem dX4_dirty_14 : decode cX4_dirty 14 = .ok (.goto 4, 3) := by decide +kernel
theorem dX4_dirty_17 : decode cX4_dirty 17 = .ok (.iconst 0, 1) := by decide +kernel
theorem dX4_dirty_18 : decode cX4_dirty 18 = .ok (.ireturn, 1) := by decide +kernel
set_option maxRecDepth 20000 in
theorem ggX4_dirtyAt_X4_isClient : GoodIn wsX4_dirtyAt wsX4_isClient := goodIn_r _ [7, 8, 9, 6, 10] (by decide +kernel) (by decide +kernel)
set_option maxRecDepth 20000 in
theorem gX4_dirtyAt_X4_isClient : GoodIn wsX4_dirtyAt (va_wsS RX4 112 yX4_isClient wsX4_isClient) := goodIn_app (goodIn_of _ (by decide +kernel)) ggX4_dirtyAt_X4_isClient
set_option maxRecDepth 20000 in
theorem ggX4_dirtyAt_X4_in : GoodIn wsX4_dirtyAt wsX4_in := goodIn_r _ [10] (by decide +kernel) (by decide +kernel)
set_option maxRecDepth 20000 in
theorem gX4_dirtyAt_X4_in : GoodIn wsX4_dirtyAt (va_wsS RX4 60 yX4_in wsX4_in) := goodIn_app (goodIn_of _ (by decide +kernel)) ggX4_dirtyAt_X4_in
set_option maxRecDepth 20000 in
theorem ggX4_dirtyAt_X4_goesWell : GoodIn wsX4_dirtyAt wsX4_goesWell := goodIn_r _ [14, 15, 16, 17, 18, 19, 20, 21, 22, 23, 24, 25, 26, 27, 28, 29, 30, 31, 32] (by decide +kernel) (by decide +kernel)
set_option maxRecDepth 20000 in
theorem gX4_dirtyAt_X4_goesWell : GoodIn wsX4_dirtyAt (wsV RX4 80 RX4 yX4_goesWell wsX4_goesWell) := goodIn_app (goodIn_of _ (by decide +kernel)) ggX4_dirtyAt_X4_goesWell
theorem dX4_dirtyAt_0 : decode cX4_dirtyAt 0 = .ok (.iload_n 1, 1) := by decide +kernel
theorem dX4_dirtyAt_1 : decode cX4_dirtyAt 1 = .ok (.invokestatic 112, 3) := by decide +kernel
theorem dX4_dirtyAt_4 : decode cX4_dirtyAt 4 = .ok (.ifCond .eq 23, 3) := by decide +kernel
theorem dX4_dirtyAt_7 : decode cX4_dirtyAt 7 = .ok (.iload_n 2, 1) := by decide +kernel
theorem dX4_dirtyAt_8 : decode cX4_dirtyAt 8 = .ok (.iconst 0, 1) := by decide +kernel
theorem dX4_dirtyAt_9 : decode cX4_dirtyAt 9 = .ok (.aload_n 0, 1) := by decide +kernel
theorem dX4_dirtyAt_10 : decode cX4_dirtyAt 10 = .ok (.getfield 38, 3) := by decide +kernel
theorem dX4_dirtyAt_13 : decode cX4_dirtyAt 13 = .ok (.iload_n 1, 1) := by decide +kernel
theorem dX4_dirtyAt_14 : decode cX4_dirtyAt 14 = .ok (.iaload, 1) := by decide +kernel
theorem dX4_dirtyAt_15 : decode cX4_dirtyAt 15 = .ok (.iconst 1, 1) := by decide +kernel
theorem dX4_dirtyAt_16 : decode cX4_dirtyAt 16 = .ok (.isub, 1) := by decide +kernel
theorem dX4_dirtyAt_17 : decode cX4_dirtyAt 17 = .ok (.invokestatic 60, 3) := by decide +kernel
theorem dX4_dirtyAt_20 : decode cX4_dirtyAt 20 = .ok (.ifCond .eq 7, 3) := by decide +kernel
theorem dX4_dirtyAt_23 : decode cX4_dirtyAt 23 = .ok (.iconst 1, 1) := by decide +kernel
theorem dX4_dirtyAt_24 : decode cX4_dirtyAt 24 = .ok (.goto 4, 3) := by decide +kernel
theorem dX4_dirtyAt_27 : decode cX4_dirtyAt 27 = .ok (.iconst 0, 1) := by decide +kernel
theorem dX4_dirtyAt_28 : decode cX4_dirtyAt 28 = .ok (.istore_n 3, 1) := by decide +kernel
theorem dX4_dirtyAt_29 : decode cX4_dirtyAt 29 = .ok (.aload_n 0, 1) := by decide +kernel
theorem dX4_dirtyAt_30 : decode cX4_dirtyAt 30 = .ok (.iload_n 1, 1) := by decide +kernel
theorem dX4_dirtyAt_31 : decode cX4_dirtyAt 31 = .ok (.invokestatic 112, 3) := by decide +kernel
theorem dX4_dirtyAt_34 : decode cX4_dirtyAt 34 = .ok (.ifCond .ne 7, 3) := by decide +kernel
theorem dX4_dirtyAt_37 : decode cX4_dirtyAt 37 = .ok (.iconst 1, 1) := by decide +kernel
theorem dX4_dirtyAt_38 : decode cX4_dirtyAt 38 = .ok (.goto 25, 3) := by decide +kernel
theorem dX4_dirtyAt_41 : decode cX4_dirtyAt 41 = .ok (.aload_n 0, 1) := by decide +kernel
theorem dX4_dirtyAt_42 : decode cX4_dirtyAt 42 = .ok (.getfield 16, 3) := by decide +kernel
theorem dX4_dirtyAt_45 : decode cX4_dirtyAt 45 = .ok (.iload_n 1, 1) := by decide +kernel
theorem dX4_dirtyAt_46 : decode cX4_dirtyAt 46 = .ok (.baload, 1) := by decide +kernel
theorem dX4_dirtyAt_47 : decode cX4_dirtyAt 47 = .ok (.ifCond .ne 7, 3) := by decide +kernel
theorem dX4_dirtyAt_50 : decode cX4_dirtyAt 50 = .ok (.iconst 2, 1) := by decide +kernel
theorem dX4_dirtyAt_51 : decode cX4_dirtyAt 51 = .ok (.goto 12, 3) := by decide +kernel
theorem dX4_dirtyAt_54 : decode cX4_dirtyAt 54 = .ok (.iload_n 3, 1) := by decide +kernel
theorem dX4_dirtyAt_55 : decode cX4_dirtyAt 55 = .ok (.ifCond .eq 7, 3) := by decide +kernel
theorem dX4_dirtyAt_58 : decode cX4_dirtyAt 58 = .ok (.iconst 0, 1) := by decide +kernel
theorem dX4_dirtyAt_59 : decode cX4_dirtyAt 59 = .ok (.goto 4, 3) := by decide +kernel
theorem dX4_dirtyAt_62 : decode cX4_dirtyAt 62 = .ok (.iconst 3, 1) := by decide +kernel
theorem dX4_dirtyAt_63 : decode cX4_dirtyAt 63 = .ok (.invokevirtual 80, 3) := by decide +kernel
theorem dX4_dirtyAt_66 : decode cX4_dirtyAt 66 = .ok (.ifCond .eq 17, 3) := by decide +kernel
theorem dX4_dirtyAt_69 : decode cX4_dirtyAt 69 = .ok (.aload_n 0, 1) := by decide +kernel
theorem dX4_dirtyAt_70 : decode cX4_dirtyAt 70 = .ok (.getfield 35, 3) := by decide +kernel
theorem dX4_dirtyAt_73 : decode cX4_dirtyAt 73 = .ok (.bipush 12, 2) := by decide +kernel
theorem dX4_dirtyAt_75 : decode cX4_dirtyAt 75 = .ok (.iload_n 1, 1) := by decide +kernel
theorem dX4_dirtyAt_76 : decode cX4_dirtyAt 76 = .ok (.imul, 1) := by decide +kernel
theorem dX4_dirtyAt_77 : decode cX4_dirtyAt 77 = .ok (.iload_n 2, 1) := by decide +kernel
theorem dX4_dirtyAt_78 : decode cX4_dirtyAt 78 = .ok (.iadd, 1) := by decide +kernel
theorem dX4_dirtyAt_79 : decode cX4_dirtyAt 79 = .ok (.iaload, 1) := by decide +kernel
theorem dX4_dirtyAt_80 : decode cX4_dirtyAt 80 = .ok (.goto 4, 3) := by decide +kernel
theorem dX4_dirtyAt_83 : decode cX4_dirtyAt 83 = .ok (.iconst 0, 1) := by decide +kernel
theorem dX4_dirtyAt_84 : decode cX4_dirtyAt 84 = .ok (.ireturn, 1) := by decide +kernel
set_option maxRecDepth 20000 in
theorem ggX4_cached_X4_isJoined : GoodIn wsX4_cached wsX4_isJoined := goodIn_r _ [6, 7, 8, 9, 5, 10, 11, 12, 13, 14, 15, 16, 17, 18, 19, 20, 21, 22, 23, 24, 25, 26, 27, 28, 29, 30, 31, 32, 33, 34, 35] (by decide +kernel) (by decide +kernel)
set_option maxRecDepth 20000 in
theorem gX4_cached_X4_isJoined : GoodIn wsX4_cached (wsV RX4 137 RX4 yX4_isJoined wsX4_isJoined) := goodIn_app (goodIn_of _ (by decide +kernel)) ggX4_cached_X4_isJoined
theorem dX4_cached_0 : decode cX4_cached 0 = .ok (.aload_n 0, 1) := by decide +kernel
theorem dX4_cached_1 : decode cX4_cached 1 = .ok (.iload_n 1, 1) := by decide +kernel
theorem dX4_cached_2 : decode cX4_cached 2 = .ok (.invokevirtual 137, 3) := by decide +kernel
theorem dX4_cached_5 : decode cX4_cached 5 = .ok (.ifCond .eq 12, 3) := by decide +kernel
theorem dX4_cached_8 : decode cX4_cached 8 = .ok (.aload_n 0, 1) := by decide +kernel
theorem dX4_cached_9 : decode cX4_cached 9 = .ok (.getfield 32, 3) := by decide +kernel
theorem dX4_cached_12 : decode cX4_cached 12 = .ok (.iload_n 1, 1) := by decide +kernel
theorem dX4_cached_13 : decode cX4_cached 13 = .ok (.iaload, 1) := by decide +kernel
theorem dX4_cached_14 : decode cX4_cached 14 = .ok (.goto 4, 3) := by decide +kernel
theorem dX4_cached_17 : decode cX4_cached 17 = .ok (.iconst 0, 1) := by decide +kernel
theorem dX4_cached_18 : decode cX4_cached 18 = .ok (.ireturn, 1) := by decide +kernel
set_option maxRecDepth 20000 in
theorem ggX4_isAlike_X4_isJoined : GoodIn wsX4_isAlike wsX4_isJoined := goodIn_r _ [9, 10, 11, 12, 8, 13, 14, 15, 16, 17, 18, 19, 20, 21, 22, 23, 24, 25, 26, 27, 28, 29, 30, 31, 32, 33, 34, 35, 36, 37, 38] (by decide +kernel) (by decide +kernel)
set_option maxRecDepth 20000 in
theorem gX4_isAlike_X4_isJoined : GoodIn wsX4_isAlike (wsV RX4 137 RX4 yX4_isJoined wsX4_isJoined) := goodIn_app (goodIn_of _ (by decide +kernel)) ggX4_isAlike_X4_isJoined
theorem dX4_isAlike_0 : decode cX4_isAlike 0 = .ok (.aload_n 0, 1) := by decide +kernel
theorem dX4_isAlike_1 : decode cX4_isAlike 1 = .ok (.iload_n 1, 1) := by decide +kernel
theorem dX4_isAlike_2 : decode cX4_isAlike 2 = .ok (.invokevirtual 137, 3) := by decide +kernel
theorem dX4_isAlike_5 : decode cX4_isAlike 5 = .ok (.ifCond .ne 5, 3) := by decide +kernel
theorem dX4_isAlike_8 : decode cX4_isAlike 8 = .ok (.iconst 0, 1) := by decide +kernel
theorem dX4_isAlike_9 : decode cX4_isAlike 9 = .ok (.ireturn, 1) := by decide +kernel
theorem dX4_isAlike_10 : decode cX4_isAlike 10 = .ok (.aload_n 0, 1) := by decide +kernel
theorem dX4_isAlike_11 : decode cX4_isAlike 11 = .ok (.getfield 26, 3) := by decide +kernel
theorem dX4_isAlike_14 : decode cX4_isAlike 14 = .ok (.iload_n 1, 1) := by decide +kernel
theorem dX4_isAlike_15 : decode cX4_isAlike 15 = .ok (.iaload, 1) := by decide +kernel
theorem dX4_isAlike_16 : decode cX4_isAlike 16 = .ok (.aload_n 0, 1) := by decide +kernel
theorem dX4_isAlike_17 : decode cX4_isAlike 17 = .ok (.getfield 32, 3) := by decide +kernel
theorem dX4_isAlike_20 : decode cX4_isAlike 20 = .ok (.iload_n 1, 1) := by decide +kernel
theorem dX4_isAlike_21 : decode cX4_isAlike 21 = .ok (.iaload, 1) := by decide +kernel
theorem dX4_isAlike_22 : decode cX4_isAlike 22 = .ok (.if_icmp .ne 7, 3) := by decide +kernel
theorem dX4_isAlike_25 : decode cX4_isAlike 25 = .ok (.iconst 1, 1) := by decide +kernel
theorem dX4_isAlike_26 : decode cX4_isAlike 26 = .ok (.goto 4, 3) := by decide +kernel
theorem dX4_isAlike_29 : decode cX4_isAlike 29 = .ok (.iconst 0, 1) := by decide +kernel
theorem dX4_isAlike_30 : decode cX4_isAlike 30 = .ok (.istore_n 2, 1) := by decide +kernel
theorem dX4_isAlike_31 : decode cX4_isAlike 31 = .ok (.iconst 0, 1) := by decide +kernel
theorem dX4_isAlike_32 : decode cX4_isAlike 32 = .ok (.istore_n 3, 1) := by decide +kernel
theorem dX4_isAlike_33 : decode cX4_isAlike 33 = .ok (.iload_n 3, 1) := by decide +kernel
theorem dX4_isAlike_34 : decode cX4_isAlike 34 = .ok (.bipush 16, 2) := by decide +kernel
theorem dX4_isAlike_36 : decode cX4_isAlike 36 = .ok (.aload_n 0, 1) := by decide +kernel
theorem dX4_isAlike_37 : decode cX4_isAlike 37 = .ok (.getfield 26, 3) := by decide +kernel
theorem dX4_isAlike_40 : decode cX4_isAlike 40 = .ok (.iload_n 1, 1) := by decide +kernel
theorem dX4_isAlike_41 : decode cX4_isAlike 41 = .ok (.iaload, 1) := by decide +kernel
theorem dX4_isAlike_42 : decode cX4_isAlike 42 = .ok (.imul, 1) := by decide +kernel
theorem dX4_isAlike_43 : decode cX4_isAlike 43 = .ok (.if_icmp .ge 44, 3) := by decide +kernel
theorem dX4_isAlike_46 : decode cX4_isAlike 46 = .ok (.iload_n 2, 1) := by decide +kernel
theorem dX4_isAlike_47 : decode cX4_isAlike 47 = .ok (.ifCond .eq 40, 3) := by decide +kernel
theorem dX4_isAlike_50 : decode cX4_isAlike 50 = .ok (.aload_n 0, 1) := by decide +kernel
theorem dX4_isAlike_51 : decode cX4_isAlike 51 = .ok (.getfield 23, 3) := by decide +kernel
theorem dX4_isAlike_54 : decode cX4_isAlike 54 = .ok (.bipush 112, 2) := by decide +kernel
theorem dX4_isAlike_56 : decode cX4_isAlike 56 = .ok (.iload_n 1, 1) := by decide +kernel
theorem dX4_isAlike_57 : decode cX4_isAlike 57 = .ok (.imul, 1) := by decide +kernel
theorem dX4_isAlike_58 : decode cX4_isAlike 58 = .ok (.iload_n 3, 1) := by decide +kernel
theorem dX4_isAlike_59 : decode cX4_isAlike 59 = .ok (.iadd, 1) := by decide +kernel
theorem dX4_isAlike_60 : decode cX4_isAlike 60 = .ok (.iaload, 1) := by decide +kernel
theorem dX4_isAlike_61 : decode cX4_isAlike 61 = .ok (.aload_n 0, 1) := by decide +kernel
theorem dX4_isAlike_62 : decode cX4_isAlike 62 = .ok (.getfield 29, 3) := by decide +kernel
theorem dX4_isAlike_65 : decode cX4_isAlike 65 = .ok (.bipush 112, 2) := by decide +kernel
theorem dX4_isAlike_67 : decode cX4_isAlike 67 = .ok (.iload_n 1, 1) := by decide +kernel
theorem dX4_isAlike_68 : decode cX4_isAlike 68 = .ok (.imul, 1) := by decide +kernel
theorem dX4_isAlike_69 : decode cX4_isAlike 69 = .ok (.iload_n 3, 1) := by decide +kernel
theorem dX4_isAlike_70 : decode cX4_isAlike 70 = .ok (.iadd, 1) := by decide +kernel
theorem dX4_isAlike_71 : decode cX4_isAlike 71 = .ok (.iaload, 1) := by decide +kernel
theorem dX4_isAlike_72 : decode cX4_isAlike 72 = .ok (.if_icmp .ne 7, 3) := by decide +kernel
theorem dX4_isAlike_75 : decode cX4_isAlike 75 = .ok (.iconst 1, 1) := by decide +kernel
theorem dX4_isAlike_76 : decode cX4_isAlike 76 = .ok (.goto 4, 3) := by decide +kernel
theorem dX4_isAlike_79 : decode cX4_isAlike 79 = .ok (.iconst 0, 1) := by decide +kernel
theorem dX4_isAlike_80 : decode cX4_isAlike 80 = .ok (.istore_n 2, 1) := by decide +kernel
theorem dX4_isAlike_81 : decode cX4_isAlike 81 = .ok (.iinc 3 1, 3) := by decide +kernel
theorem dX4_isAlike_84 : decode cX4_isAlike 84 = .ok (.goto (-51), 3) := by decide +kernel
theorem dX4_isAlike_87 : decode cX4_isAlike 87 = .ok (.iload_n 2, 1) := by decide +kernel
theorem dX4_isAlike_88 : decode cX4_isAlike 88 = .ok (.ireturn, 1) := by decide +kernel
set_option maxRecDepth 20000 in
theorem ggX4_written_X4_in : GoodIn wsX4_written wsX4_in := goodIn_r _ [5] (by decide +kernel) (by decide +kernel)
set_option maxRecDepth 20000 in
theorem gX4_written_X4_in : GoodIn wsX4_written (va_wsS RX4 60 yX4_in wsX4_in) := goodIn_app (goodIn_of _ (by decide +kernel)) ggX4_written_X4_in
set_option maxRecDepth 20000 in
theorem ggX4_written_X4_goesWell : GoodIn wsX4_written wsX4_goesWell := goodIn_r _ [9, 10, 11, 12, 13, 14, 15, 16, 17, 18, 19, 20, 21, 22, 23, 24, 25, 26, 27] (by decide +kernel) (by decide +kernel)
set_option maxRecDepth 20000 in
theorem gX4_written_X4_goesWell : GoodIn wsX4_written (wsV RX4 80 RX4 yX4_goesWell wsX4_goesWell) := goodIn_app (goodIn_of _ (by decide +kernel)) ggX4_written_X4_goesWell
theorem dX4_written_0 : decode cX4_written 0 = .ok (.aload_n 0, 1) := by decide +kernel
theorem dX4_written_1 : decode cX4_written 1 = .ok (.iload_n 1, 1) := by decide +kernel
theorem dX4_written_2 : decode cX4_written 2 = .ok (.iconst 0, 1) := by decide +kernel
theorem dX4_written_3 : decode cX4_written 3 = .ok (.iconst 4, 1) := by decide +kernel
theorem dX4_written_4 : decode cX4_written 4 = .ok (.invokestatic 60, 3) := by decide +kernel
theorem dX4_written_7 : decode cX4_written 7 = .ok (.ifCond .eq 7, 3) := by decide +kernel
theorem dX4_written_10 : decode cX4_written 10 = .ok (.iconst 0, 1) := by decide +kernel
theorem dX4_written_11 : decode cX4_written 11 = .ok (.goto 4, 3) := by decide +kernel
theorem dX4_written_14 : decode cX4_written 14 = .ok (.iconst 1, 1) := by decide +kernel
theorem dX4_written_15 : decode cX4_written 15 = .ok (.invokevirtual 80, 3) := by decide +kernel
theorem dX4_written_18 : decode cX4_written 18 = .ok (.ifCond .eq 12, 3) := by decide +kernel
theorem dX4_written_21 : decode cX4_written 21 = .ok (.aload_n 0, 1) := by decide +kernel
theorem dX4_written_22 : decode cX4_written 22 = .ok (.getfield 50, 3) := by decide +kernel
theorem dX4_written_25 : decode cX4_written 25 = .ok (.iload_n 1, 1) := by decide +kernel
theorem dX4_written_26 : decode cX4_written 26 = .ok (.iaload, 1) := by decide +kernel
theorem dX4_written_27 : decode cX4_written 27 = .ok (.goto 4, 3) := by decide +kernel
theorem dX4_written_30 : decode cX4_written 30 = .ok (.iconst 0, 1) := by decide +kernel
theorem dX4_written_31 : decode cX4_written 31 = .ok (.ireturn, 1) := by decide +kernel
theorem dX4_units_0 : decode cX4_units 0 = .ok (.aload_n 0, 1) := by decide +kernel
theorem dX4_units_1 : decode cX4_units 1 = .ok (.iconst 0, 1) := by decide +kernel
theorem dX4_units_2 : decode cX4_units 2 = .ok (.putfield 56, 3) := by decide +kernel
theorem dX4_units_5 : decode cX4_units 5 = .ok (.aload_n 0, 1) := by decide +kernel
theorem dX4_units_6 : decode cX4_units 6 = .ok (.getfield 128, 3) := by decide +kernel
theorem dX4_units_9 : decode cX4_units 9 = .ok (.ireturn, 1) := by decide +kernel
theorem dJ6_bitCount_0f7a4_0 : decode cJ6_bitCount_0f7a4 0 = .ok (.iload_n 0, 1) := by decide +kernel
theorem dJ6_bitCount_0f7a4_1 : decode cJ6_bitCount_0f7a4 1 = .ok (.iload_n 0, 1) := by decide +kernel
theorem dJ6_bitCount_0f7a4_2 : decode cJ6_bitCount_0f7a4 2 = .ok (.iconst 1, 1) := by decide +kernel
theorem dJ6_bitCount_0f7a4_3 : decode cJ6_bitCount_0f7a4 3 = .ok (.iushr, 1) := by decide +kernel
theorem dJ6_bitCount_0f7a4_4 : decode cJ6_bitCount_0f7a4 4 = .ok (.ldc_w 265, 3) := by decide +kernel
theorem dJ6_bitCount_0f7a4_7 : decode cJ6_bitCount_0f7a4 7 = .ok (.iand, 1) := by decide +kernel
theorem dJ6_bitCount_0f7a4_8 : decode cJ6_bitCount_0f7a4 8 = .ok (.isub, 1) := by decide +kernel
theorem dJ6_bitCount_0f7a4_9 : decode cJ6_bitCount_0f7a4 9 = .ok (.istore_n 0, 1) := by decide +kernel
theorem dJ6_bitCount_0f7a4_10 : decode cJ6_bitCount_0f7a4 10 = .ok (.iload_n 0, 1) := by decide +kernel
theorem dJ6_bitCount_0f7a4_11 : decode cJ6_bitCount_0f7a4 11 = .ok (.ldc_w 266, 3) := by decide +kernel
theorem dJ6_bitCount_0f7a4_14 : decode cJ6_bitCount_0f7a4 14 = .ok (.iand, 1) := by decide +kernel
theorem dJ6_bitCount_0f7a4_15 : decode cJ6_bitCount_0f7a4 15 = .ok (.iload_n 0, 1) := by decide +kernel
theorem dJ6_bitCount_0f7a4_16 : decode cJ6_bitCount_0f7a4 16 = .ok (.iconst 2, 1) := by decide +kernel
theorem dJ6_bitCount_0f7a4_17 : decode cJ6_bitCount_0f7a4 17 = .ok (.iushr, 1) := by decide +kernel
theorem dJ6_bitCount_0f7a4_18 : decode cJ6_bitCount_0f7a4 18 = .ok (.ldc_w 266, 3) := by decide +kernel
theorem dJ6_bitCount_0f7a4_21 : decode cJ6_bitCount_0f7a4 21 = .ok (.iand, 1) := by decide +kernel
theorem dJ6_bitCount_0f7a4_22 : decode cJ6_bitCount_0f7a4 22 = .ok (.iadd, 1) := by decide +kernel
theorem dJ6_bitCount_0f7a4_23 : decode cJ6_bitCount_0f7a4 23 = .ok (.istore_n 0, 1) := by decide +kernel
theorem dJ6_bitCount_0f7a4_24 : decode cJ6_bitCount_0f7a4 24 = .ok (.iload_n 0, 1) := by decide +kernel
theorem dJ6_bitCount_0f7a4_25 : decode cJ6_bitCount_0f7a4 25 = .ok (.iload_n 0, 1) := by decide +kernel
theorem dJ6_bitCount_0f7a4_26 : decode cJ6_bitCount_0f7a4 26 = .ok (.iconst 4, 1) := by decide +kernel
theorem dJ6_bitCount_0f7a4_27 : decode cJ6_bitCount_0f7a4 27 = .ok (.iushr, 1) := by decide +kernel
theorem dJ6_bitCount_0f7a4_28 : decode cJ6_bitCount_0f7a4 28 = .ok (.iadd, 1) := by decide +kernel
theorem dJ6_bitCount_0f7a4_29 : decode cJ6_bitCount_0f7a4 29 = .ok (.ldc_w 267, 3) := by decide +kernel
theorem dJ6_bitCount_0f7a4_32 : decode cJ6_bitCount_0f7a4 32 = .ok (.iand, 1) := by decide +kernel
theorem dJ6_bitCount_0f7a4_33 : decode cJ6_bitCount_0f7a4 33 = .ok (.istore_n 0, 1) := by decide +kernel
theorem dJ6_bitCount_0f7a4_34 : decode cJ6_bitCount_0f7a4 34 = .ok (.iload_n 0, 1) := by decide +kernel
theorem dJ6_bitCount_0f7a4_35 : decode cJ6_bitCount_0f7a4 35 = .ok (.iload_n 0, 1) := by decide +kernel
theorem dJ6_bitCount_0f7a4_36 : decode cJ6_bitCount_0f7a4 36 = .ok (.bipush 8, 2) := by decide +kernel
theorem dJ6_bitCount_0f7a4_38 : decode cJ6_bitCount_0f7a4 38 = .ok (.iushr, 1) := by decide +kernel
theorem dJ6_bitCount_0f7a4_39 : decode cJ6_bitCount_0f7a4 39 = .ok (.iadd, 1) := by decide +kernel
theorem dJ6_bitCount_0f7a4_40 : decode cJ6_bitCount_0f7a4 40 = .ok (.istore_n 0, 1) := by decide +kernel
theorem dJ6_bitCount_0f7a4_41 : decode cJ6_bitCount_0f7a4 41 = .ok (.iload_n 0, 1) := by decide +kernel
theorem dJ6_bitCount_0f7a4_42 : decode cJ6_bitCount_0f7a4 42 = .ok (.iload_n 0, 1) := by decide +kernel
theorem dJ6_bitCount_0f7a4_43 : decode cJ6_bitCount_0f7a4 43 = .ok (.bipush 16, 2) := by decide +kernel
theorem dJ6_bitCount_0f7a4_45 : decode cJ6_bitCount_0f7a4 45 = .ok (.iushr, 1) := by decide +kernel
theorem dJ6_bitCount_0f7a4_46 : decode cJ6_bitCount_0f7a4 46 = .ok (.iadd, 1) := by decide +kernel
theorem dJ6_bitCount_0f7a4_47 : decode cJ6_bitCount_0f7a4 47 = .ok (.istore_n 0, 1) := by decide +kernel
theorem dJ6_bitCount_0f7a4_48 : decode cJ6_bitCount_0f7a4 48 = .ok (.iload_n 0, 1) := by decide +kernel
theorem dJ6_bitCount_0f7a4_49 : decode cJ6_bitCount_0f7a4 49 = .ok (.bipush 63, 2) := by decide +kernel
theorem dJ6_bitCount_0f7a4_51 : decode cJ6_bitCount_0f7a4 51 = .ok (.iand, 1) := by decide +kernel
theorem dJ6_bitCount_0f7a4_52 : decode cJ6_bitCount_0f7a4 52 = .ok (.ireturn, 1) := by decide +kernel
theorem dJ9_min_7cf53_0 : decode cJ9_min_7cf53 0 = .ok (.iload_n 0, 1) := by decide +kernel
theorem dJ9_min_7cf53_1 : decode cJ9_min_7cf53 1 = .ok (.iload_n 1, 1) := by decide +kernel
theorem dJ9_min_7cf53_2 : decode cJ9_min_7cf53 2 = .ok (.if_icmp .gt 7, 3) := by decide +kernel
theorem dJ9_min_7cf53_5 : decode cJ9_min_7cf53 5 = .ok (.iload_n 0, 1) := by decide +kernel
theorem dJ9_min_7cf53_6 : decode cJ9_min_7cf53 6 = .ok (.goto 4, 3) := by decide +kernel
theorem dJ9_min_7cf53_9 : decode cJ9_min_7cf53 9 = .ok (.iload_n 1, 1) := by decide +kernel
theorem dJ9_min_7cf53_10 : decode cJ9_min_7cf53 10 = .ok (.ireturn, 1) := by decide +kernel
end
section
/-! rows on bits, shifts and unsigned numbers, to paste: each family out of a closed proof of our own, whole with what it rests on; each by itself clean at Lean in its own claim (generation 39, form 5). Take a family whole -/
/-! ===== Int32 by its bits: bt x i ===== -/
def bt (x : Int32) (i : Nat) : Bool := x.toBitVec.getLsbD i
theorem b_ext {x y : Int32} (h : ∀ i, i < 32 → bt x i = bt y i) : x = y := Int32.toBitVec_inj.mp (BitVec.eq_of_getLsbD_eq (fun i hi => h i hi))
theorem b_or (x y : Int32) (i : Nat) : bt (x ||| y) i = (bt x i || bt y i) := by unfold bt; rw [Int32.toBitVec_or, BitVec.getLsbD_or]
theorem b_and (x y : Int32) (i : Nat) : bt (x &&& y) i = (bt x i && bt y i) := by unfold bt; rw [Int32.toBitVec_and, BitVec.getLsbD_and]
theorem b_xor (x y : Int32) (i : Nat) : bt (x ^^^ y) i = (bt x i ^^ bt y i) := by unfold bt; rw [Int32.toBitVec_xor, BitVec.getLsbD_xor]
theorem b_big {x : Int32} {i : Nat} (h : 32 ≤ i) : bt x i = false := BitVec.getLsbD_of_ge _ _ h
theorem b_255 (i : Nat) : bt 255 i = decide (i < 8) := by
  rcases Nat.lt_or_ge i 32 with h | h
  · exact (by decide +kernel : ∀ i, i < 32 → bt 255 i = decide (i < 8)) i h
  · rw [b_big h, decide_eq_false (by omega)]
theorem b_65535 (i : Nat) : bt 65535 i = decide (i < 16) := by
  rcases Nat.lt_or_ge i 32 with h | h
  · exact (by decide +kernel : ∀ i, i < 32 → bt 65535 i = decide (i < 16)) i h
  · rw [b_big h, decide_eq_false (by omega)]
theorem b_m1 : ∀ i, i < 32 → bt (-1) i = true := by decide +kernel
theorem b_0 (i : Nat) : bt 0 i = false := BitVec.getLsbD_zero
theorem s_l : ∀ n, n < 32 → ((nI n &&& 31).toBitVec.smod 32).toNat = n := by decide +kernel
theorem s_u : ∀ n, n < 32 → (((nI n).toUInt32 &&& Int32.toUInt32 31).toBitVec % 32).toNat = n := by decide +kernel
theorem b_shl (n : Nat) (hn : n < 32) (x : Int32) {i : Nat} (hi : i < 32) : bt (x <<< (nI n &&& 31)) i = (decide (n ≤ i) && bt x (i - n)) := by
  unfold bt
  rw [Int32.toBitVec_shiftLeft]
  show (x.toBitVec <<< ((nI n &&& 31).toBitVec.smod 32).toNat).getLsbD i = _
  rw [s_l n hn, BitVec.getLsbD_shiftLeft]
  rcases Nat.lt_or_ge i n with h | h
  · simp [h, Nat.not_le.mpr h]
  · simp [hi, h, Nat.not_lt.mpr h]
theorem b_ushr (n : Nat) (hn : n < 32) (x : Int32) (i : Nat) : bt ((x.toUInt32 >>> ((nI n).toUInt32 &&& Int32.toUInt32 31)).toInt32) i = bt x (n + i) := by
  show (x.toUInt32 >>> ((nI n).toUInt32 &&& Int32.toUInt32 31)).toBitVec.getLsbD i = x.toUInt32.toBitVec.getLsbD (n + i)
  rw [UInt32.toBitVec_shiftRight]
  show (x.toUInt32.toBitVec >>> (((nI n).toUInt32 &&& Int32.toUInt32 31).toBitVec % 32).toNat).getLsbD i = _
  rw [s_u n hn, BitVec.getLsbD_ushiftRight]
theorem b_sshr (n : Nat) (hn : n < 32) (x : Int32) {i : Nat} (hi : i < 32) : bt (x >>> (nI n &&& 31)) i = if n + i < 32 then bt x (n + i) else bt x 31 := by
  unfold bt
  rw [Int32.toBitVec_shiftRight]
  show (x.toBitVec.sshiftRight ((nI n &&& 31).toBitVec.smod 32).toNat).getLsbD i = _
  rw [s_l n hn, BitVec.getLsbD_sshiftRight, BitVec.msb_eq_getLsbD_last]
  simp [hi]
theorem b_shl8 (x : Int32) {i : Nat} (hi : i < 32) : bt (x <<< ((8 : Int32) &&& 31)) i = (decide (8 ≤ i) && bt x (i - 8)) := b_shl 8 (by omega) x hi
theorem b_shl16 (x : Int32) {i : Nat} (hi : i < 32) : bt (x <<< ((16 : Int32) &&& 31)) i = (decide (16 ≤ i) && bt x (i - 16)) := b_shl 16 (by omega) x hi
theorem b_shl24 (x : Int32) {i : Nat} (hi : i < 32) : bt (x <<< ((24 : Int32) &&& 31)) i = (decide (24 ≤ i) && bt x (i - 24)) := b_shl 24 (by omega) x hi
theorem b_sshr8 (x : Int32) {i : Nat} (hi : i < 32) : bt (x >>> ((8 : Int32) &&& 31)) i = if 8 + i < 32 then bt x (8 + i) else bt x 31 := b_sshr 8 (by omega) x hi
/-! ===== nI under and, xor, >>>, one bit, 65535 ===== -/
theorem nx_and (a b : Nat) : nI a &&& nI b = nI (a &&& b) := by
  apply Int32.toBitVec_inj.1
  show BitVec.ofNat 32 a &&& BitVec.ofNat 32 b = BitVec.ofNat 32 (a &&& b)
  apply BitVec.eq_of_getLsbD_eq
  intro i hi
  simp [hi]
theorem nx_xor (a b : Nat) : nI a ^^^ nI b = nI (a ^^^ b) := by
  apply Int32.toBitVec_inj.1
  show BitVec.ofNat 32 a ^^^ BitVec.ofNat 32 b = BitVec.ofNat 32 (a ^^^ b)
  apply BitVec.eq_of_getLsbD_eq
  intro i hi
  simp [hi]
theorem nx_cnt : ∀ j : Fin 32, (UInt32.ofNat j.val &&& Int32.toUInt32 31).toNat % 32 = j.val := by decide +kernel
theorem nx_ush {k j : Nat} (hk : k < 65536) (hj : j < 32) : ((nI k).toUInt32 >>> ((nI j).toUInt32 &&& Int32.toUInt32 31)).toInt32 = nI (k >>> j) := by
  have hs : k >>> j ≤ k := by
    rw [Nat.shiftRight_eq_div_pow]
    exact Nat.div_le_self _ _
  have e2 : UInt32.ofNat k >>> (UInt32.ofNat j &&& Int32.toUInt32 31) = UInt32.ofNat (k >>> j) := by
    apply UInt32.toNat_inj.1
    have h1 : (UInt32.ofNat k).toNat = k := Nat.mod_eq_of_lt (by omega)
    have h2 : (UInt32.ofNat (k >>> j)).toNat = k >>> j := Nat.mod_eq_of_lt (by omega)
    rw [UInt32.toNat_shiftRight, nx_cnt ⟨j, hj⟩, h1, h2]
  show (UInt32.ofNat k >>> (UInt32.ofNat j &&& Int32.toUInt32 31)).toInt32 = _
  rw [e2]
  rfl
theorem nx_bit {k j : Nat} (hk : k < 65536) (hj : j < 16) : (((nI k).toUInt32 >>> ((nI j).toUInt32 &&& Int32.toUInt32 31)).toInt32 &&& 1) = 0 ↔ k.testBit j = false := by
  rw [nx_ush hk (by omega)]
  show nI (k >>> j) &&& nI 1 = 0 ↔ _
  rw [nx_and, Nat.and_one_is_mod, ← nI_0, nI_eq (by omega) (by omega), Nat.testBit_eq_decide_div_mod_eq, Nat.shiftRight_eq_div_pow, decide_eq_false_iff_not]
  generalize k / 2 ^ j = z
  omega
theorem nx_mod (k : Nat) : nI k &&& 65535 = nI (k % 65536) := by
  show nI k &&& nI 65535 = _
  rw [nx_and, show (65535 : Nat) = 2 ^ 16 - 1 from rfl, Nat.and_two_pow_sub_one_eq_mod]
theorem nx_m16 {k : Nat} (h : k < 65536) : nI k &&& 65535 = nI k := by rw [nx_mod, Nat.mod_eq_of_lt h]
theorem nx_mask (x : Int32) : ∃ k, k < 65536 ∧ x &&& 65535 = nI k := by
  have e : x = nI x.toBitVec.toNat := by
    apply Int32.toBitVec_inj.1
    show x.toBitVec = BitVec.ofNat 32 x.toBitVec.toNat
    simp
  refine ⟨x.toBitVec.toNat % 65536, Nat.mod_lt _ (by omega), ?_⟩
  rw [← nx_mod, ← e]
/-! ===== Int32 as a set of bits: test, set ===== -/
def nf_M (m : Int32) : Nat := 4294967296 - m.toBitVec.toNat
theorem nf_sh : ∀ l, l < 32 → ((1 : Int32) <<< (nI l &&& 31)).toBitVec = BitVec.twoPow 32 l := by decide +kernel
theorem nf_sl : ∀ l, l < 32 → (((nI l).toUInt32 &&& Int32.toUInt32 31).toBitVec % 32).toNat = l := by decide +kernel
theorem nf_tp : ∀ l, l < 32 → BitVec.twoPow 32 l ≠ 0#32 := by decide +kernel
theorem nf_bit (m : Int32) (l : Nat) (hl : l < 32) : ((m.toUInt32 >>> ((nI l).toUInt32 &&& Int32.toUInt32 31)).toInt32 &&& 1) = 0 ↔ (m &&& ((1 : Int32) <<< (nI l &&& 31))) = 0 := by
  have e : ((m.toUInt32 >>> ((nI l).toUInt32 &&& Int32.toUInt32 31)).toInt32).toBitVec = m.toBitVec >>> l := by
    show m.toBitVec >>> (((nI l).toUInt32 &&& Int32.toUInt32 31).toBitVec % 32) = m.toBitVec >>> l
    rw [BitVec.ushiftRight_eq', nf_sl l hl]
  rw [← Int32.toBitVec_inj, ← Int32.toBitVec_inj, Int32.toBitVec_and, Int32.toBitVec_and, nf_sh l hl, e, BitVec.and_twoPow]
  show (m.toBitVec >>> l &&& 1#32) = 0#32 ↔ _ = 0#32
  rw [BitVec.and_one_eq_setWidth_ofBool_getLsbD, BitVec.getLsbD_ushiftRight, Nat.add_zero]
  cases hb : m.toBitVec.getLsbD l
  · exact ⟨fun _ => by simp, fun _ => by decide⟩
  · exact ⟨fun z => absurd z (by decide), fun z => absurd ((if_pos rfl).symm.trans z) (nf_tp l hl)⟩
theorem nf_gr (m k : Int32) (h : m &&& k = 0) (hk : k ≠ 0) : nf_M (m ||| k) < nf_M m := by
  have hm := m.toBitVec.isLt
  have hm' := (m ||| k).toBitVec.isLt
  have h1 : m.toBitVec.toNat ≤ (m ||| k).toBitVec.toNat := by
    rw [Int32.toBitVec_or, BitVec.toNat_or]
    exact Nat.left_le_or
  have h2 : m.toBitVec.toNat ≠ (m ||| k).toBitVec.toNat := by
    intro e
    have e2 : m = m ||| k := Int32.toBitVec_inj.mp (BitVec.eq_of_toNat_eq e)
    apply hk
    apply Int32.toBitVec_inj.mp
    show k.toBitVec = 0#32
    apply BitVec.eq_of_getLsbD_eq
    intro i hi
    have a : m.toBitVec.getLsbD i = (m.toBitVec.getLsbD i || k.toBitVec.getLsbD i) := by rw [← BitVec.getLsbD_or, ← Int32.toBitVec_or, ← e2]
    have b : (m.toBitVec.getLsbD i && k.toBitVec.getLsbD i) = false := by
      rw [← BitVec.getLsbD_and, ← Int32.toBitVec_and, h]
      exact BitVec.getLsbD_zero
    rw [BitVec.getLsbD_zero]
    revert a b
    cases m.toBitVec.getLsbD i <;> cases k.toBitVec.getLsbD i <;> simp
  unfold nf_M
  omega
/-! ===== a byte read unsigned ===== -/
theorem bp_b (x : Int32) : x.toInt8.toInt32 &&& 255 = x &&& 255 := by
  apply Int32.toBitVec_inj.mp
  rw [Int32.toBitVec_and, Int32.toBitVec_and, Int8.toBitVec_toInt32, Int32.toBitVec_toInt8]
  apply BitVec.eq_of_getLsbD_eq
  intro i hi
  rw [BitVec.getLsbD_and, BitVec.getLsbD_and]
  have hm : ∀ i < 32, 8 ≤ i → (255 : Int32).toBitVec.getLsbD i = false := by decide
  rcases Nat.lt_or_ge i 8 with z | z
  · rw [BitVec.getLsbD_signExtend, BitVec.getLsbD_signExtend, if_pos z, if_pos hi]
    simp only [z, hi, decide_true, Bool.true_and]
  · rw [hm i hi z]; simp
/-! ===== the char cast and 65535 ===== -/
/-! ===== Int64 as a set of bits: test, set, clear ===== -/
theorem ts_nf {x : Bool} (h : ¬ x = false) : x = true := by cases x <;> first | rfl | exact absurd rfl h
theorem ts_nt {x : Bool} (h : ¬ x = true) : x = false := by cases x <;> first | rfl | exact absurd rfl h
theorem ts_bit {w : Int64} {s : UInt64} {j : Nat} (hj : j < 64) (hs : s.toNat = j) : ((w.toUInt64 >>> s).toInt64 &&& 1) = 0 ↔ w.toBitVec.getLsbD j = false := by
  have e : (w.toUInt64 >>> s).toInt64.toBitVec = w.toBitVec >>> j := by
    apply BitVec.eq_of_toNat_eq
    show (w.toUInt64 >>> s).toNat = _
    rw [UInt64.toNat_shiftRight, hs, Nat.mod_eq_of_lt hj, BitVec.toNat_ushiftRight]
    rfl
  rw [← Int64.toBitVec_inj, Int64.toBitVec_and, e]
  show w.toBitVec >>> j &&& 1#64 = 0#64 ↔ _
  constructor
  · intro h
    have t := congrArg (fun x => x.getLsbD 0) h
    simpa using t
  · intro h
    apply BitVec.eq_of_getLsbD_eq
    intro i hi
    cases i with
    | zero => simp [h]
    | succ i => simp
theorem ts_or {w m : Int64} {j : Nat} (hj : j < 64) (hm : m.toBitVec = BitVec.twoPow 64 j) : (w ||| m) = w ↔ w.toBitVec.getLsbD j = true := by
  rw [← Int64.toBitVec_inj, Int64.toBitVec_or, hm]
  constructor
  · intro h
    have t := congrArg (fun x => x.getLsbD j) h
    simp only [BitVec.getLsbD_or, BitVec.getLsbD_twoPow] at t
    simpa [hj] using t.symm
  · intro h
    apply BitVec.eq_of_getLsbD_eq
    intro i hi
    rw [BitVec.getLsbD_or, BitVec.getLsbD_twoPow]
    by_cases e : j = i
    · subst e; rw [h, Bool.true_or]
    · simp [e]
theorem ts_and {w m : Int64} {j : Nat} (hj : j < 64) (hm : m.toBitVec = BitVec.twoPow 64 j) : (w &&& (m ^^^ (-1))) = w ↔ w.toBitVec.getLsbD j = false := by
  have ha : (-1 : Int64).toBitVec = BitVec.allOnes 64 := by decide
  rw [← Int64.toBitVec_inj, Int64.toBitVec_and, Int64.toBitVec_xor, hm, ha]
  constructor
  · intro h
    have t := congrArg (fun x => x.getLsbD j) h
    simp only [BitVec.getLsbD_and, BitVec.getLsbD_xor, BitVec.getLsbD_twoPow, BitVec.getLsbD_allOnes] at t
    simpa [hj] using t.symm
  · intro h
    apply BitVec.eq_of_getLsbD_eq
    intro i hi
    rw [BitVec.getLsbD_and, BitVec.getLsbD_xor, BitVec.getLsbD_twoPow, BitVec.getLsbD_allOnes]
    by_cases e : j = i
    · subst e; rw [h, Bool.false_and]
    · simp [e, hi]
/-! ===== lN n to 2^64: shifts, and, or, masks, one bit ===== -/
theorem wb_tb (n : Nat) : (lN n).toBitVec = BitVec.ofNat 64 n := rfl
theorem wb_inj {a b : Int64} (h : a.toBitVec = b.toBitVec) : a = b := Int64.toBitVec_inj.mp h
theorem wb_tn {n : Nat} (h : n < 2 ^ 64) : (lN n).toBitVec.toNat = n := by rw [wb_tb, BitVec.toNat_ofNat, Nat.mod_eq_of_lt h]
theorem wb_of (x : Int64) : ∃ n, n < 2 ^ 64 ∧ x = lN n := ⟨x.toBitVec.toNat, x.toBitVec.isLt, wb_inj (by rw [wb_tb]; simp)⟩
theorem wb_of32 (x : Int32) : ∃ n, n < 2 ^ 32 ∧ x = nI n := ⟨x.toBitVec.toNat, x.toBitVec.isLt, Int32.toBitVec_inj.mp (by show _ = BitVec.ofNat 32 _; simp)⟩
theorem wb_c : ∀ k, k < 64 → ((nI k).toInt64 &&& 63) = lN k := by decide +kernel
theorem wb_cu : ∀ k, k < 64 → ((nI k).toInt64.toUInt64 &&& Int64.toUInt64 63) = UInt64.ofNat k := by decide +kernel
theorem wb_sm : ∀ k, k < 64 → (BitVec.ofNat 64 k).smod 64 = BitVec.ofNat 64 k := by decide +kernel
theorem wb_pw {a b : Nat} (h : a ≤ b) : 2 ^ b = 2 ^ a * 2 ^ (b - a) := by rw [← Nat.pow_add]; congr 1; omega
theorem wb_lt2 {a b : Nat} (h : a < b) : 2 ^ a < 2 ^ b := Nat.pow_lt_pow_right (by decide) h
theorem wb_mod (n : Nat) : lN n = lN (n % 2 ^ 64) := wb_inj (by rw [wb_tb, wb_tb]; apply BitVec.eq_of_toNat_eq; rw [BitVec.toNat_ofNat, BitVec.toNat_ofNat, Nat.mod_mod])
theorem wb_shr {n k : Nat} (hn : n < 2 ^ 64) (hk : k < 64) : ((lN n).toUInt64 >>> ((nI k).toInt64.toUInt64 &&& Int64.toUInt64 63)).toInt64 = lN (n / 2 ^ k) := by
  rw [wb_cu k hk]
  apply wb_inj
  apply BitVec.eq_of_toNat_eq
  show ((lN n).toUInt64 >>> UInt64.ofNat k).toNat = (BitVec.ofNat 64 _).toNat
  have h1 : (UInt64.ofNat k).toNat = k := by
    show (BitVec.ofNat 64 k).toNat = k
    rw [BitVec.toNat_ofNat, Nat.mod_eq_of_lt (by omega)]
  have h2 : (lN n).toUInt64.toNat = n := wb_tn hn
  rw [UInt64.toNat_shiftRight, h1, h2, Nat.mod_eq_of_lt hk, Nat.shiftRight_eq_div_pow, BitVec.toNat_ofNat, Nat.mod_eq_of_lt (Nat.lt_of_le_of_lt (Nat.div_le_self _ _) hn)]
theorem wb_shl (n : Nat) {k : Nat} (hk : k < 64) : lN n <<< ((nI k).toInt64 &&& 63) = lN (n * 2 ^ k) := by
  rw [wb_c k hk]
  apply wb_inj
  rw [Int64.toBitVec_shiftLeft, wb_tb, wb_tb, wb_tb, wb_sm k hk]
  apply BitVec.eq_of_toNat_eq
  rw [BitVec.shiftLeft_eq', BitVec.toNat_shiftLeft, BitVec.toNat_ofNat, BitVec.toNat_ofNat, BitVec.toNat_ofNat, Nat.mod_eq_of_lt (show k < 2 ^ 64 by omega), Nat.shiftLeft_eq, Nat.mul_mod, Nat.mod_mod, ← Nat.mul_mod]
theorem wb_and {a b : Nat} (ha : a < 2 ^ 64) (hb : b < 2 ^ 64) : lN a &&& lN b = lN (a &&& b) := by
  apply wb_inj
  rw [Int64.toBitVec_and, wb_tb, wb_tb, wb_tb]
  apply BitVec.eq_of_toNat_eq
  rw [BitVec.toNat_and, BitVec.toNat_ofNat, BitVec.toNat_ofNat, BitVec.toNat_ofNat, Nat.mod_eq_of_lt ha, Nat.mod_eq_of_lt hb, Nat.mod_eq_of_lt (Nat.and_lt_two_pow _ hb)]
theorem wb_or {a b : Nat} (ha : a < 2 ^ 64) (hb : b < 2 ^ 64) : lN a ||| lN b = lN (a ||| b) := by
  apply wb_inj
  rw [Int64.toBitVec_or, wb_tb, wb_tb, wb_tb]
  apply BitVec.eq_of_toNat_eq
  rw [BitVec.toNat_or, BitVec.toNat_ofNat, BitVec.toNat_ofNat, BitVec.toNat_ofNat, Nat.mod_eq_of_lt ha, Nat.mod_eq_of_lt hb, Nat.mod_eq_of_lt (Nat.or_lt_two_pow ha hb)]
theorem wb_mask {n k : Nat} (hn : n < 2 ^ 64) (hk : k < 64) : lN n &&& lN (2 ^ k - 1) = lN (n % 2 ^ k) := by
  rw [wb_and hn (by have := wb_lt2 hk; omega), Nat.and_two_pow_sub_one_eq_mod]
theorem wb_a1 {n : Nat} (hn : n < 2 ^ 64) : lN n &&& 1 = lN (n % 2) := wb_mask (k := 1) hn (by decide)
theorem wb_bit {n k : Nat} (hn : n < 2 ^ 64) (hk : k < 64) : ((lN n).toUInt64 >>> ((nI k).toInt64.toUInt64 &&& Int64.toUInt64 63)).toInt64 &&& 1 = lN (n / 2 ^ k % 2) := by
  rw [wb_shr hn hk, wb_a1 (Nat.lt_of_le_of_lt (Nat.div_le_self _ _) hn)]
theorem wb_xor {q k : Nat} (hk : k < 63) (h : 2 ^ k ≤ q) (h2 : q < 2 ^ (k + 1)) : lN q ^^^ lN (2 ^ k) = lN (q - 2 ^ k) := by
  obtain ⟨r, rfl⟩ : ∃ r, q = 2 ^ k + r := ⟨q - 2 ^ k, by omega⟩
  have hr : r < 2 ^ k := by rw [Nat.pow_succ] at h2; omega
  have hx : (2 ^ k + r) ^^^ 2 ^ k = r := by
    apply Nat.eq_of_testBit_eq
    intro i
    rw [Nat.testBit_xor, Nat.testBit_two_pow]
    rcases Nat.lt_trichotomy i k with h | h | h
    · rw [Nat.testBit_two_pow_add_gt h]
      simp [show ¬ k = i by omega]
    · subst h
      rw [Nat.testBit_two_pow_add_eq]
      simp
    · have a1 : 2 ^ (k + 1) ≤ 2 ^ i := Nat.pow_le_pow_right (by decide) h
      rw [Nat.testBit_lt_two_pow (show 2 ^ k + r < 2 ^ i by omega), Nat.testBit_lt_two_pow (show r < 2 ^ i by omega)]
      simp [show ¬ k = i by omega]
  have b1 := wb_lt2 (show k + 1 < 64 by omega)
  have b2 := wb_lt2 (show k < 64 by omega)
  apply wb_inj
  rw [Int64.toBitVec_xor, wb_tb, wb_tb, wb_tb]
  apply BitVec.eq_of_toNat_eq
  rw [BitVec.toNat_xor, BitVec.toNat_ofNat, BitVec.toNat_ofNat, BitVec.toNat_ofNat, Nat.mod_eq_of_lt (by omega : 2 ^ k + r < 2 ^ 64), Nat.mod_eq_of_lt b2, hx, Nat.add_sub_cancel_left, Nat.mod_eq_of_lt (by omega)]
/-! ===== lN: masks, 'or' of parts that don't overlap is a sum ===== -/
theorem u_tn {n : Nat} (h : n < 2 ^ 64) : (UInt64.ofNat n).toNat = n := Nat.mod_eq_of_lt h
theorem g_and {a b c : Nat} (ha : a < 2 ^ 64) (hb : b < 2 ^ 64) (hc : a &&& b = c) : lN a &&& lN b = lN c := by
  subst hc
  have h : UInt64.ofNat a &&& UInt64.ofNat b = UInt64.ofNat (a &&& b) := UInt64.toNat_inj.mp (by rw [UInt64.toNat_and, u_tn ha, u_tn hb, u_tn (Nat.and_lt_two_pow a hb)])
  have h2 := congrArg UInt64.toInt64 h
  exact h2
theorem g_and1 {a : Nat} (ha : a < 2 ^ 64) : lN a &&& 1 = lN (a % 2) := g_and (b := 1) ha (by decide) (Nat.and_two_pow_sub_one_eq_mod a 1)
theorem g_mask {a s p : Nat} (hp : 2 ^ s = p) (hs : s < 64) (ha : a < 2 ^ 64) : lN a &&& lN (p - 1) = lN (a % p) := by
  subst hp
  have := Nat.pow_lt_pow_right (show 1 < 2 by decide) hs
  exact g_and ha (by omega) (Nat.and_two_pow_sub_one_eq_mod a s)
theorem g_or {k p a b : Nat} (hp : 2 ^ k = p) (ha : a < p) (h : b * p + a < 2 ^ 64) : lN (b * p) ||| lN a = lN (b * p + a) := by
  subst hp
  have h1 : b * 2 ^ k ||| a = b * 2 ^ k + a := by rw [← Nat.shiftLeft_eq, Nat.shiftLeft_add_eq_or_of_lt ha]
  have h3 : UInt64.ofNat (b * 2 ^ k) ||| UInt64.ofNat a = UInt64.ofNat (b * 2 ^ k + a) := UInt64.toNat_inj.mp (by rw [UInt64.toNat_or, u_tn (by omega), u_tn (by omega), u_tn h, h1])
  have h2 := congrArg UInt64.toInt64 h3
  exact h2
theorem g_or' {k p a b : Nat} (hp : 2 ^ k = p) (ha : a < p) (h : a + b * p < 2 ^ 64) : lN a ||| lN (b * p) = lN (a + b * p) := by
  rw [Int64.or_comm, g_or hp ha (by omega), Nat.add_comm]
theorem g_ushr {a k p : Nat} {y : UInt64} (hy : y = UInt64.ofNat k) (hk : k < 64) (hp : 2 ^ k = p) (ha : a < 2 ^ 64) : ((lN a).toUInt64 >>> y).toInt64 = lN (a / p) := by
  subst hy hp
  have h : UInt64.ofNat a >>> UInt64.ofNat k = UInt64.ofNat (a / 2 ^ k) := UInt64.toNat_inj.mp (by rw [UInt64.toNat_shiftRight, u_tn ha, u_tn (by omega), u_tn (Nat.lt_of_le_of_lt (Nat.div_le_self _ _) ha), Nat.mod_eq_of_lt hk, Nat.shiftRight_eq_div_pow])
  have h2 := congrArg UInt64.toInt64 h
  exact h2
theorem g_shl {a k p : Nat} {y : Int64} (hy : y.toBitVec.smod 64 = BitVec.ofNat 64 k) (hk : k < 64) (hp : 2 ^ k = p) (ha : a < 2 ^ 64) : lN a <<< y = lN (a * p) := by
  subst hp
  apply Int64.toBitVec_inj.mp
  rw [Int64.toBitVec_shiftLeft, hy]
  apply BitVec.eq_of_toNat_eq
  have hb : (lN a).toBitVec.toNat = a := Nat.mod_eq_of_lt ha
  have hk' : (BitVec.ofNat 64 k).toNat = k := Nat.mod_eq_of_lt (by omega)
  have h : ((lN a).toBitVec <<< BitVec.ofNat 64 k).toNat = (a * 2 ^ k) % 2 ^ 64 := by simp only [BitVec.shiftLeft_eq', BitVec.toNat_shiftLeft, hb, hk', Nat.shiftLeft_eq]
  exact h
/-! ===== lN to 2^62 under >> and >>> ===== -/
theorem pf_lI {a : Nat} (h : a < 2 ^ 63) : (lN a).toInt = (a : Int) := lg_ofNat_toInt h
theorem pf_shr {a d : Nat} {D : Int64} (hD : (D.toBitVec.smod 64).toNat = d) (h : a < 2 ^ 62) : lN a >>> D = lN (a / 2 ^ d) := by
  have hd : a / 2 ^ d ≤ a := Nat.div_le_self _ _
  apply Int64.toInt_inj.mp
  have e : (lN a >>> D).toInt = (lN a).toInt >>> d := by
    rw [← hD]
    exact BitVec.toInt_sshiftRight ..
  rw [e, Int.shiftRight_eq_div_pow, pf_lI (by omega), pf_lI (by omega)]
  rfl
theorem pf_ushr {a d : Nat} {D : UInt64} (hD : D.toNat % 64 = d) (h : a < 2 ^ 62) : ((lN a).toUInt64 >>> D).toInt64 = lN (a / 2 ^ d) := by
  have hd : a / 2 ^ d ≤ a := Nat.div_le_self _ _
  have e : (lN a).toUInt64 >>> D = UInt64.ofNat (a / 2 ^ d) := UInt64.toNat_inj.mp (by
    rw [UInt64.toNat_shiftRight, hD, Nat.shiftRight_eq_div_pow, UInt64.toNat_ofNat']
    show (UInt64.ofNat a).toNat / 2 ^ d = _
    rw [UInt64.toNat_ofNat', Nat.mod_eq_of_lt (by omega), Nat.mod_eq_of_lt (by omega)])
  rw [e]
  rfl
theorem pf_andw (x : Int64) : ∃ m, m < 2 ^ 32 ∧ x &&& 4294967295 = lN m := ⟨x.toBitVec.toNat % 2 ^ 32, Nat.mod_lt _ (by decide), Int64.toBitVec_inj.mp (BitVec.eq_of_toNat_eq (by
  show (x.toBitVec &&& 4294967295#64).toNat = (BitVec.ofNat 64 (x.toBitVec.toNat % 2 ^ 32)).toNat
  rw [BitVec.toNat_and, show (4294967295#64).toNat = 2 ^ 32 - 1 from by decide, Nat.and_two_pow_sub_one_eq_mod, BitVec.toNat_ofNat]
  omega))⟩
/-! ===== Int64 as an unsigned number: uN x ===== -/
def uN (x : Int64) : Nat := x.toUInt64.toNat
theorem uN_lt (x : Int64) : uN x < 18446744073709551616 := x.toUInt64.toNat_lt
theorem uN_inj {x y : Int64} (h : uN x = uN y) : x = y := congrArg UInt64.toInt64 (UInt64.toNat_inj.mp h)
theorem uN_add (x y : Int64) : uN (x + y) = (uN x + uN y) % 18446744073709551616 := by
  show (x.toUInt64 + y.toUInt64).toNat = _
  exact UInt64.toNat_add _ _
theorem uN_mul (x y : Int64) : uN (x * y) = (uN x * uN y) % 18446744073709551616 := by
  show (x.toUInt64 * y.toUInt64).toNat = _
  exact UInt64.toNat_mul _ _
theorem uN_shl (x : Int64) : uN (x <<< ((1 : Int32).toInt64 &&& 63)) = (2 * uN x) % 18446744073709551616 := by
  have h : (((1 : Int32).toInt64 &&& 63).toBitVec.smod 64).toNat = 1 := by decide
  show (x.toBitVec <<< (((1 : Int32).toInt64 &&& 63).toBitVec.smod 64).toNat).toNat = _
  rw [h, BitVec.toNat_shiftLeft, Nat.shiftLeft_eq, Nat.mul_comm]
  rfl
theorem uN_shr (x : Int64) (s : UInt64) : uN (x.toUInt64 >>> s).toInt64 = uN x / 2 ^ (s.toNat % 64) := by
  show (x.toUInt64 >>> s).toNat = _
  rw [UInt64.toNat_shiftRight, Nat.shiftRight_eq_div_pow]
  rfl
theorem uN_s32 (x : Int64) : uN (x.toUInt64 >>> ((32 : Int32).toInt64.toUInt64 &&& Int64.toUInt64 63)).toInt64 = uN x / 4294967296 := by
  have h : ((32 : Int32).toInt64.toUInt64 &&& Int64.toUInt64 63).toNat % 64 = 32 := by decide
  rw [uN_shr, h]
theorem uN_s63 (x : Int64) : uN (x.toUInt64 >>> ((63 : Int32).toInt64.toUInt64 &&& Int64.toUInt64 63)).toInt64 = uN x / 9223372036854775808 := by
  have h : ((63 : Int32).toInt64.toUInt64 &&& Int64.toUInt64 63).toNat % 64 = 63 := by decide
  rw [uN_shr, h]
theorem uN_lo (x : Int64) : uN (x &&& 4294967295) = uN x % 4294967296 := by
  show (x.toUInt64 &&& Int64.toUInt64 4294967295).toNat = _
  rw [UInt64.toNat_and]
  exact Nat.and_two_pow_sub_one_eq_mod _ 32
theorem uN_bit (x : Int64) : (x &&& 1) = 0 ↔ uN x % 2 = 0 := by
  have h : uN (x &&& 1) = uN x % 2 := by
    show (x.toUInt64 &&& Int64.toUInt64 1).toNat = _
    rw [UInt64.toNat_and]
    exact Nat.and_two_pow_sub_one_eq_mod _ 1
  rw [← h]
  exact ⟨fun z => by rw [z]; rfl, fun z => uN_inj (z.trans rfl)⟩
theorem uN_or {x y : Int64} (hy : uN y < 2) : uN ((x <<< ((1 : Int32).toInt64 &&& 63)) ||| y) = (2 * uN x) % 18446744073709551616 + uN y := by
  have h1 : uN ((x <<< ((1 : Int32).toInt64 &&& 63)) ||| y) = uN (x <<< ((1 : Int32).toInt64 &&& 63)) ||| uN y := UInt64.toNat_or _ _
  have h2 : (2 * uN x) % 18446744073709551616 = 2 ^ 1 * (uN x % 9223372036854775808) := by omega
  rw [h1, uN_shl, h2]
  exact (Nat.two_pow_add_eq_or_of_lt (i := 1) hy _).symm
theorem nat_xor {a : Nat} (h : a < 18446744073709551616) : a ^^^ 2 ^ 63 = (a + 9223372036854775808) % 18446744073709551616 := by
  have h1 : (a ^^^ 2 ^ 63) % 2 ^ 63 = a % 2 ^ 63 := by rw [Nat.xor_mod_two_pow, Nat.mod_self, Nat.xor_zero]
  have h2 : (a ^^^ 2 ^ 63) / 2 ^ 63 = (a / 2 ^ 63) ^^^ 1 := by rw [Nat.xor_div_two_pow, Nat.div_self (Nat.two_pow_pos 63)]
  have h3 : a / 2 ^ 63 = 0 ∨ a / 2 ^ 63 = 1 := by omega
  generalize a ^^^ 2 ^ 63 = t at h1 h2
  rcases h3 with h3 | h3
  · rw [h3] at h2
    have h2 : t / 2 ^ 63 = 1 := h2
    omega
  · rw [h3] at h2
    have h2 : t / 2 ^ 63 = 0 := h2
    omega
theorem uN_xor (x : Int64) : uN (x ^^^ (-9223372036854775808)) = (uN x + 9223372036854775808) % 18446744073709551616 := by
  rw [← nat_xor (uN_lt x)]
  exact UInt64.toNat_xor _ _
theorem uN_int (x : Int64) : x.toInt = if 2 * uN x < 18446744073709551616 then (uN x : Int) else (uN x : Int) - 18446744073709551616 := BitVec.toInt_eq_toNat_cond _
theorem uN_le (x y : Int64) : (x ^^^ (-9223372036854775808)) ≤ (y ^^^ (-9223372036854775808)) ↔ uN x ≤ uN y := by
  have hx := uN_lt x
  have hy := uN_lt y
  rw [Int64.le_iff_toInt_le, uN_int, uN_int, uN_xor, uN_xor]
  omega
theorem uN_sk (x : Int64) {k : Nat} (hk : k < 64) : uN (x.toUInt64 >>> ((nI k).toInt64.toUInt64 &&& Int64.toUInt64 63)).toInt64 = uN x / 2 ^ k := by
  have h : ((nI k).toInt64.toUInt64 &&& Int64.toUInt64 63).toNat % 64 = k := by
    rw [nI_l (by omega), UInt64.toNat_and]
    have e : (lN k).toUInt64.toNat = k % 2 ^ 64 := rfl
    have e2 : (Int64.toUInt64 63).toNat = 2 ^ 6 - 1 := by decide
    rw [e, e2, Nat.and_two_pow_sub_one_eq_mod]
    omega
  rw [uN_shr, h]
/-! ===== unsigned comparison by xor with the least ===== -/
theorem lN_bv (n : Nat) : (lN n).toBitVec = BitVec.ofNat 64 n := rfl
theorem lN_nat {n : Nat} (h : n < 2 ^ 64) : (lN n).toBitVec.toNat = n := by rw [lN_bv, BitVec.toNat_ofNat]; exact Nat.mod_eq_of_lt h
theorem lN_xor (a b : Nat) : lN a ^^^ lN b = lN (a ^^^ b) := by
  apply Int64.toBitVec_inj.mp; rw [Int64.toBitVec_xor, lN_bv, lN_bv, lN_bv]; apply BitVec.eq_of_getLsbD_eq; intro i hi; simp [BitVec.getLsbD_ofNat, Nat.testBit_xor, hi]
theorem lN_ti {m : Nat} (h : m < 2 ^ 64) : (lN m).toInt = if m < 2 ^ 63 then (m : Int) else (m : Int) - 2 ^ 64 := by
  have c := BitVec.toInt_eq_toNat_cond (lN m).toBitVec
  rw [lN_nat h] at c
  show (lN m).toBitVec.toInt = _
  rw [c]
  split <;> split <;> omega
theorem xor63 {x : Nat} (h : x < 2 ^ 63) : x ^^^ 2 ^ 63 = 2 ^ 63 + x := by
  apply Nat.eq_of_testBit_eq
  intro i
  rw [Nat.testBit_xor, Nat.testBit_two_pow]
  rcases Nat.lt_trichotomy i 63 with z | z | z
  · rw [Nat.testBit_two_pow_add_gt z, decide_eq_false (by omega)]; simp
  · subst z; rw [Nat.testBit_two_pow_add_eq]; simp
  · have hp : 2 ^ 64 ≤ 2 ^ i := Nat.pow_le_pow_right (by decide) z
    rw [Nat.testBit_lt_two_pow (show x < 2 ^ i by omega), Nat.testBit_lt_two_pow (show 2 ^ 63 + x < 2 ^ i by omega), decide_eq_false (by omega)]; rfl
theorem xorS {a : Nat} (h : a < 2 ^ 64) : (lN a ^^^ (-9223372036854775808)).toInt = (a : Int) - 2 ^ 63 := by
  rw [show (-9223372036854775808 : Int64) = lN (2 ^ 63) from by decide +kernel, lN_xor]
  rcases Nat.lt_or_ge a (2 ^ 63) with z | z
  · rw [xor63 z, lN_ti (by omega), if_neg (by omega)]; omega
  · obtain ⟨x, rfl⟩ : ∃ x, a = 2 ^ 63 + x := ⟨a - 2 ^ 63, by omega⟩
    rw [← xor63 (by omega), Nat.xor_assoc, Nat.xor_self, Nat.xor_zero, lN_ti (by omega), if_pos (by omega), xor63 (by omega)]; omega
theorem ultL {a b : Nat} (ha : a < 2 ^ 64) (hb : b < 2 ^ 64) : ((lN b ^^^ (-9223372036854775808)) ≤ (lN a ^^^ (-9223372036854775808))) ↔ b ≤ a := by
  rw [Int64.le_iff_toInt_le, xorS ha, xorS hb]; omega
/-! ===== Int64 masks of n low bits ===== -/
theorem cr_bits (W U M : BitVec 64) : ((W &&& U) &&& (U &&& (M ^^^ BitVec.allOnes 64))) = 0#64 ↔ (W &&& U) &&& M = W &&& U := by
  constructor
  · intro h
    apply BitVec.eq_of_getLsbD_eq
    intro i hi
    have e := congrArg (fun x => BitVec.getLsbD x i) h
    simp only [BitVec.getLsbD_and, BitVec.getLsbD_xor, BitVec.getLsbD_allOnes, BitVec.getLsbD_zero, hi, decide_true] at e ⊢
    revert e
    cases W.getLsbD i <;> cases U.getLsbD i <;> cases M.getLsbD i <;> decide
  · intro h
    apply BitVec.eq_of_getLsbD_eq
    intro i hi
    have e := congrArg (fun x => BitVec.getLsbD x i) h
    simp only [BitVec.getLsbD_and, BitVec.getLsbD_xor, BitVec.getLsbD_allOnes, BitVec.getLsbD_zero, hi, decide_true] at e ⊢
    revert e
    cases W.getLsbD i <;> cases U.getLsbD i <;> cases M.getLsbD i <;> decide
theorem cr_mask (w U m : Int64) (n : Nat) (hm : m.toBitVec.toNat = 2 ^ n - 1) : ((w &&& U) &&& (U &&& (m ^^^ (-1)))) = 0 ↔ (w &&& U).toBitVec.toNat < 2 ^ n := by
  have e0 : (-1 : Int64).toBitVec = BitVec.allOnes 64 := by decide
  have z0 : (0 : Int64).toBitVec = 0#64 := by decide
  rw [← Int64.toBitVec_inj, z0, Int64.toBitVec_and, Int64.toBitVec_and, Int64.toBitVec_and, Int64.toBitVec_xor, e0, cr_bits]
  generalize w.toBitVec &&& U.toBitVec = T
  rw [← BitVec.toNat_inj, BitVec.toNat_and, hm, Nat.and_two_pow_sub_one_eq_mod]
  constructor
  · intro h
    have t := Nat.mod_lt T.toNat (Nat.two_pow_pos n)
    rw [h] at t
    exact t
  · exact Nat.mod_eq_of_lt
theorem cr_shr (t : Int64) (x : UInt64) (n : Nat) (hx : x.toNat % 64 = n) : (t.toUInt64 >>> x).toInt64 = 0 ↔ t.toBitVec.toNat < 2 ^ n := by
  rw [← Int64.toBitVec_inj, ← BitVec.toNat_inj]
  show (t.toUInt64 >>> x).toNat = 0 ↔ t.toUInt64.toNat < 2 ^ n
  rw [UInt64.toNat_shiftRight, hx, Nat.shiftRight_eq_div_pow]
  constructor
  · intro h
    have d : t.toUInt64.toNat / 2 ^ n < 1 := by
      rw [h]
      decide
    have e := (Nat.div_lt_iff_lt_mul (Nat.two_pow_pos n)).mp d
    rw [Nat.one_mul] at e
    exact e
  · exact Nat.div_eq_of_lt
theorem cr_amt (s : Int64) : ∃ n, n < 64 ∧ s &&& 63 = lN n ∧ (s.toUInt64 &&& Int64.toUInt64 63).toNat % 64 = n := by
  have e : (s.toUInt64 &&& Int64.toUInt64 63).toNat = s.toUInt64.toNat % 2 ^ 6 := by
    rw [UInt64.toNat_and, show (Int64.toUInt64 63).toNat = 2 ^ 6 - 1 from by decide, Nat.and_two_pow_sub_one_eq_mod]
  refine ⟨s.toUInt64.toNat % 2 ^ 6, by omega, ?_, by omega⟩
  rw [← Int64.toBitVec_inj, ← BitVec.toNat_inj]
  show (s.toUInt64 &&& Int64.toUInt64 63).toNat = (BitVec.ofNat 64 (s.toUInt64.toNat % 2 ^ 6)).toNat
  rw [e, BitVec.toNat_ofNat]
  omega
end
section
/-! plain facts on numbers and arrays, to paste: each family by itself; over the kit's rows on nI and upd -/
/-! ===== order of ints, in all its forms, and through longs ===== -/
theorem fa_lt (a b : Int32) : a < b ↔ a.toInt < b.toInt := Int32.lt_iff_toInt_lt
theorem fa_le (a b : Int32) : a ≤ b ↔ a.toInt ≤ b.toInt := Int32.le_iff_toInt_le
theorem fa_eq (a b : Int32) : a = b ↔ a.toInt = b.toInt := Int32.toInt_inj.symm
theorem fa_lt64 (a b : Int64) : a < b ↔ a.toInt < b.toInt := Int64.lt_iff_toInt_lt
theorem fa_le64 (a b : Int64) : a ≤ b ↔ a.toInt ≤ b.toInt := Int64.le_iff_toInt_le
theorem fa_eq64 (a b : Int64) : a = b ↔ a.toInt = b.toInt := Int64.toInt_inj.symm
/-- a comparison of two ints taken as longs -/
theorem fa_wide_lt (a b : Int32) : a.toInt64 < b.toInt64 ↔ a < b := by rw [fa_lt64, fa_lt, Int32.toInt_toInt64, Int32.toInt_toInt64]
theorem fa_wide_le (a b : Int32) : a.toInt64 ≤ b.toInt64 ↔ a ≤ b := by rw [fa_le64, fa_le, Int32.toInt_toInt64, Int32.toInt_toInt64]
theorem fa_wide_eq (a b : Int32) : a.toInt64 = b.toInt64 ↔ a = b := by rw [fa_eq64, fa_eq, Int32.toInt_toInt64, Int32.toInt_toInt64]
/-- one strict comparison gives all the others -/
theorem fa_of_lt {a b : Int32} (h : a < b) : a ≤ b ∧ ¬ b ≤ a ∧ ¬ b < a ∧ a ≠ b ∧ b ≠ a := by
  rw [fa_lt] at h
  refine ⟨?_, ?_, ?_, ?_, ?_⟩
  · rw [fa_le]; omega
  · rw [fa_le]; omega
  · rw [fa_lt]; omega
  · intro e; rw [fa_eq] at e; omega
  · intro e; rw [fa_eq] at e; omega
theorem fa_of_nlt {a b : Int32} (h : ¬ a < b) : b ≤ a := by
  rw [fa_lt] at h
  rw [fa_le]
  omega
theorem fa_of_nle {a b : Int32} (h : ¬ a ≤ b) : b < a := by
  rw [fa_le] at h
  rw [fa_lt]
  omega
theorem fa_le_ne {a b : Int32} (h : a ≤ b) (h2 : a ≠ b) : a < b := by
  rw [fa_le] at h
  rw [fa_lt]
  have h3 : a.toInt ≠ b.toInt := fun e => h2 ((fa_eq a b).mpr e)
  omega
theorem fa_three (a b : Int32) : a < b ∨ a = b ∨ b < a := by
  rw [fa_lt, fa_lt, fa_eq]
  omega
theorem fa_trans {a b c : Int32} (h : a < b) (h2 : b ≤ c) : a < c := by
  rw [fa_lt] at *
  rw [fa_le] at h2
  omega
/-! ===== small literals as numbers ===== -/
theorem fa_lit (n : Nat) : (OfNat.ofNat n : Int32) = nI n := rfl
theorem fa_litL (n : Nat) : (OfNat.ofNat n : Int64) = lN n := rfl
/-! ===== bits of a number: 'or', masks, one bit ===== -/
theorem fa_and (a b : Nat) : nI a &&& nI b = nI (a &&& b) := by
  apply Int32.toBitVec_inj.1
  show BitVec.ofNat 32 a &&& BitVec.ofNat 32 b = BitVec.ofNat 32 (a &&& b)
  apply BitVec.eq_of_getLsbD_eq
  intro i hi
  simp [hi]
theorem fa_or (a b : Nat) : nI a ||| nI b = nI (a ||| b) := by
  apply Int32.toBitVec_inj.1
  show BitVec.ofNat 32 a ||| BitVec.ofNat 32 b = BitVec.ofNat 32 (a ||| b)
  apply BitVec.eq_of_getLsbD_eq
  intro i hi
  simp [hi]
/-- a remainder by a power of two, as a mask -/
theorem fa_mask (n k : Nat) : nI n &&& nI (2 ^ k - 1) = nI (n % 2 ^ k) := by rw [fa_and, Nat.and_two_pow_sub_one_eq_mod]
/-- 'or' of a high part and a low one that don't meet is their sum -/
theorem fa_or_sum {a k : Nat} (b : Nat) (h : a < 2 ^ k) : nI (2 ^ k * b) ||| nI a = nI (2 ^ k * b + a) := by rw [fa_or, Nat.two_pow_add_eq_or_of_lt h]
/-- one bit, by 'and' with a power of two -/
theorem fa_bit {n j : Nat} (hj : j < 31) : nI n &&& nI (2 ^ j) = 0 ↔ n.testBit j = false := by
  have h2 : (2 : Nat) ^ j < 2 ^ 31 := Nat.pow_lt_pow_right (by decide) hj
  have hle : n &&& 2 ^ j ≤ 2 ^ j := Nat.and_le_right
  have e : n &&& 2 ^ j = 0 ↔ n.testBit j = false := by
    constructor
    · intro h
      have h1 : (n &&& 2 ^ j).testBit j = false := by rw [h]; simp
      rw [Nat.testBit_and] at h1
      first | simpa using h1 | simpa [Nat.testBit_two_pow_self] using h1 | simpa [Nat.testBit_two_pow] using h1
    · intro h
      apply Nat.eq_of_testBit_eq
      intro i
      rw [Nat.testBit_and]
      by_cases hi : j = i
      · subst hi; simp [h]
      · first | (simp [Nat.testBit_two_pow, hi]; done) | (simp [Nat.testBit_two_pow_of_ne hi]; done)
  rw [fa_and]
  constructor
  · intro h
    apply e.mp
    rcases Nat.eq_zero_or_pos (n &&& 2 ^ j) with z | z
    · exact z
    · exact absurd h (nI_ne0 z (Nat.lt_of_le_of_lt hle h2))
  · intro h
    rw [e.mpr h]; exact nI_0
/-- a remainder by a power of two of a number that isn't negative, as Java divides -/
theorem fa_rem {a k : Nat} (ha : a < 2 ^ 31) (hk : k < 31) : nI a - nI a / nI (2 ^ k) * nI (2 ^ k) = nI (a % 2 ^ k) := pk_rem ha (Nat.two_pow_pos k) (Nat.pow_lt_pow_right (by decide) hk)
/-! ===== cuts to a byte, a short ===== -/
theorem fa_byte_xor (x y : Int32) : (x ^^^ y).toInt8 = x.toInt8 ^^^ y.toInt8 := by
  apply Int8.toBitVec_inj.1
  apply BitVec.eq_of_getLsbD_eq
  intro i hi
  first | (simp [hi]; done) | (simp [hi, BitVec.getLsbD_setWidth, BitVec.getLsbD_signExtend]; done)
theorem fa_short_xor (x y : Int32) : (x ^^^ y).toInt16 = x.toInt16 ^^^ y.toInt16 := by
  apply Int16.toBitVec_inj.1
  apply BitVec.eq_of_getLsbD_eq
  intro i hi
  first | (simp [hi]; done) | (simp [hi, BitVec.getLsbD_setWidth, BitVec.getLsbD_signExtend]; done)
/-- the cut to a byte sees the low byte alone -/
theorem fa_byte_low (x : Int32) : (x &&& 255).toInt8 = x.toInt8 := by
  apply Int8.toBitVec_inj.1
  apply BitVec.eq_of_getLsbD_eq
  intro i hi
  have h2 : (255 : Int32).toBitVec.getLsbD i = true := by
    have : ∀ j : Fin 8, (255 : Int32).toBitVec.getLsbD j.val = true := by decide +kernel
    exact this ⟨i, hi⟩
  have h4 : (x &&& 255).toBitVec.getLsbD i = x.toBitVec.getLsbD i := by
    show (x.toBitVec &&& (255 : Int32).toBitVec).getLsbD i = _
    rw [BitVec.getLsbD_and, h2, Bool.and_true]
  have h3 : i < 32 := by omega
  first
    | (show (((x &&& 255).toBitVec).signExtend 8).getLsbD i = (x.toBitVec.signExtend 8).getLsbD i; rw [BitVec.getLsbD_signExtend, BitVec.getLsbD_signExtend, if_pos h3, if_pos h3, h4])
    | (show (((x &&& 255).toBitVec).setWidth 8).getLsbD i = (x.toBitVec.setWidth 8).getLsbD i; rw [BitVec.getLsbD_setWidth, BitVec.getLsbD_setWidth, h4])
    | (simp [hi, h3, h4]; done)
theorem fa_short_low (x : Int32) : (x &&& 65535).toInt16 = x.toInt16 := by
  apply Int16.toBitVec_inj.1
  apply BitVec.eq_of_getLsbD_eq
  intro i hi
  have h2 : (65535 : Int32).toBitVec.getLsbD i = true := by
    have : ∀ j : Fin 16, (65535 : Int32).toBitVec.getLsbD j.val = true := by decide +kernel
    exact this ⟨i, hi⟩
  have h4 : (x &&& 65535).toBitVec.getLsbD i = x.toBitVec.getLsbD i := by
    show (x.toBitVec &&& (65535 : Int32).toBitVec).getLsbD i = _
    rw [BitVec.getLsbD_and, h2, Bool.and_true]
  have h3 : i < 32 := by omega
  first
    | (show (((x &&& 65535).toBitVec).signExtend 16).getLsbD i = (x.toBitVec.signExtend 16).getLsbD i; rw [BitVec.getLsbD_signExtend, BitVec.getLsbD_signExtend, if_pos h3, if_pos h3, h4])
    | (show (((x &&& 65535).toBitVec).setWidth 16).getLsbD i = (x.toBitVec.setWidth 16).getLsbD i; rw [BitVec.getLsbD_setWidth, BitVec.getLsbD_setWidth, h4])
    | (simp [hi, h3, h4]; done)
/-- a small number is its own byte, its own short -/
theorem fa_byte_small {n : Nat} (h : n < 128) : (nI n).toInt8.toInt32 = nI n := by
  have : ∀ j : Fin 128, (nI j.val).toInt8.toInt32 = nI j.val := by decide +kernel
  exact this ⟨n, h⟩
/-! ===== absolute difference ===== -/
theorem fa_absdiff {a b : Nat} (ha : a < 2 ^ 31) (hb : b < 2 ^ 31) : (if nI a < nI b then nI b - nI a else nI a - nI b) = nI (if a < b then b - a else a - b) := by
  by_cases h : a < b
  · rw [if_pos (nI_lt h hb), if_pos h]
    exact pk_sub (Nat.le_of_lt h)
  · rw [if_neg (nI_nlt (Nat.le_of_not_lt h) ha), if_neg h]
    exact pk_sub (Nat.le_of_not_lt h)
/-! ===== an array behind i stores, a conditional store, a row copied ===== -/
/-- f where k < i, what stood there else -/
def fa_fill {α : Type} (f g : Nat → α) (i : Nat) : Nat → α := fun k => if k < i then f k else g k
theorem fa_fill_0 {α : Type} (f g : Nat → α) : fa_fill f g 0 = g := funext fun k => if_neg (Nat.not_lt_zero k)
theorem fa_fill_in {α : Type} {f g : Nat → α} {i k : Nat} (h : k < i) : fa_fill f g i k = f k := if_pos h
theorem fa_fill_out {α : Type} {f g : Nat → α} {i k : Nat} (h : i ≤ k) : fa_fill f g i k = g k := if_neg (Nat.not_lt.mpr h)
theorem fa_fill_succ (f g : Nat → Int32) (i : Nat) : upd (fa_fill f g i) i (f i) = fa_fill f g (i + 1) := by
  funext k
  by_cases e : k = i
  · subst e
    rw [pk_us]
    exact (if_pos (Nat.lt_succ_self k)).symm
  · rw [pk_un e]
    by_cases h : k < i
    · rw [fa_fill_in h, fa_fill_in (Nat.lt_succ_of_lt h)]
    · rw [fa_fill_out (Nat.le_of_not_lt h), fa_fill_out (by omega)]
/-- a store that changes nothing -/
theorem fa_upd_same {f : Nat → Int32} {i : Nat} {x : Int32} (h : f i = x) : upd f i x = f := by
  funext k
  by_cases e : k = i
  · subst e
    rw [pk_us, h]
  · rw [pk_un e]
/-- a store under a condition, told as one -/
theorem fa_upd_if (c : Prop) [Decidable c] (f : Nat → Int32) (i : Nat) (x : Int32) : (if c then upd f i x else f) = upd f i (if c then x else f i) := by
  by_cases h : c
  · rw [if_pos h, if_pos h]
  · rw [if_neg h, if_neg h, fa_upd_same rfl]
/-- two stores at one place, at two -/
theorem fa_upd_twice (f : Nat → Int32) (i : Nat) (x y : Int32) : upd (upd f i x) i y = upd f i y := by
  funext k
  by_cases e : k = i
  · subst e
    rw [pk_us, pk_us]
  · rw [pk_un e, pk_un e, pk_un e]
theorem fa_upd_swap (f : Nat → Int32) {i j : Nat} (h : i ≠ j) (x y : Int32) : upd (upd f i x) j y = upd (upd f j y) i x := by
  funext k
  by_cases e : k = i
  · subst e
    rw [pk_un h, pk_us, pk_us]
  · by_cases e2 : k = j
    · subst e2
      rw [pk_us, pk_un e, pk_us]
    · rw [pk_un e2, pk_un e, pk_un e, pk_un e2]
/-! ===== the first index with a property; a count ===== -/
/-- the first k < n with p k, n if there is none -/
def fa_first (p : Nat → Bool) : Nat → Nat
  | 0 => 0
  | n + 1 => if fa_first p n < n then fa_first p n else if p n then n else n + 1
theorem fa_first_le (p : Nat → Bool) : ∀ n, fa_first p n ≤ n
  | 0 => Nat.le_refl 0
  | n + 1 => by
    have ih := fa_first_le p n
    unfold fa_first
    split
    · omega
    · split
      · omega
      · omega
theorem fa_first_no (p : Nat → Bool) : ∀ n k, k < fa_first p n → p k = false
  | 0, k, h => absurd h (Nat.not_lt_zero k)
  | n + 1, k, h => by
    have ih := fa_first_no p n
    have hl := fa_first_le p n
    unfold fa_first at h
    split at h
    · exact ih k h
    · rename_i h1
      split at h
      · exact ih k (by omega)
      · rename_i h2
        by_cases e : k = n
        · subst e
          exact Bool.eq_false_iff.mpr h2
        · exact ih k (by omega)
theorem fa_first_yes (p : Nat → Bool) : ∀ n, fa_first p n < n → p (fa_first p n) = true
  | 0, h => absurd h (Nat.not_lt_zero _)
  | n + 1, h => by
    have ih := fa_first_yes p n
    have hl := fa_first_le p n
    unfold fa_first at h ⊢
    split at h
    · rename_i h1
      rw [if_pos h1]
      exact ih h1
    · rename_i h1
      rw [if_neg h1]
      split at h
      · rename_i h2
        rw [if_pos h2]
        exact h2
      · omega
/-- how many k < n have p k -/
def fa_cnt (p : Nat → Bool) : Nat → Nat
  | 0 => 0
  | n + 1 => fa_cnt p n + if p n then 1 else 0
theorem fa_cnt_le (p : Nat → Bool) : ∀ n, fa_cnt p n ≤ n
  | 0 => Nat.le_refl 0
  | n + 1 => by
    have ih := fa_cnt_le p n
    unfold fa_cnt
    split
    · omega
    · omega
theorem fa_cnt_yes {p : Nat → Bool} {n : Nat} (h : p n = true) : fa_cnt p (n + 1) = fa_cnt p n + 1 := by rw [fa_cnt, if_pos h]
theorem fa_cnt_no {p : Nat → Bool} {n : Nat} (h : p n = false) : fa_cnt p (n + 1) = fa_cnt p n := by rw [fa_cnt, if_neg (by rw [h]; decide)]; rfl
theorem fa_cnt_cong {p q : Nat → Bool} : ∀ {n : Nat}, (∀ k, k < n → p k = q k) → fa_cnt p n = fa_cnt q n
  | 0, _ => rfl
  | n + 1, h => by rw [fa_cnt, fa_cnt, fa_cnt_cong (fun k hk => h k (Nat.lt_succ_of_lt hk)), h n (Nat.lt_succ_self n)]
/-! ===== an answer carried into a post; a branch on a boolean answer ===== -/
theorem fa_post {α : Type} {P : α → Prop} {x y : α} (h : x = y) (hp : P y) : P x := h ▸ hp
theorem fa_post2 {α β : Type} {P : α → β → Prop} {x y : α} {u v : β} (h : x = y) (h2 : u = v) (hp : P y v) : P x u := h ▸ h2 ▸ hp
theorem fa_bool {r : Int32} {b : Bool} (h : r = if b then 1 else 0) : (r = 0 ↔ b = false) ∧ (¬ r = 0 ↔ b = true) := by
  subst h
  cases b
  · exact ⟨⟨fun _ => rfl, fun _ => rfl⟩, ⟨fun h => absurd rfl h, fun h => absurd h (by decide)⟩⟩
  · exact ⟨⟨fun h => absurd h (by decide), fun h => absurd h (by decide)⟩, ⟨fun _ => rfl, fun _ => by decide⟩⟩
/-- a boolean's narrowing changes nothing -/
theorem fa_bool_and {r : Int32} (h : r = 0 ∨ r = 1) : r &&& 1 = r := by
  rcases h with rfl | rfl
  · decide
  · decide
theorem fa_bool_prop {c : Prop} [Decidable c] {r : Int32} (h : r = if c then 1 else 0) : (r = 0 ↔ ¬ c) ∧ (¬ r = 0 ↔ c) := by
  subst h
  by_cases hc : c
  · rw [if_pos hc]
    exact ⟨⟨fun h => absurd h (by decide), fun h => absurd hc h⟩, ⟨fun _ => hc, fun _ => by decide⟩⟩
  · rw [if_neg hc]
    exact ⟨⟨fun _ => hc, fun _ => rfl⟩, ⟨fun h => absurd rfl h, fun h => absurd h hc⟩⟩
end
section
/-! plain facts to paste, each family by itself; over the kit's nI, lN and upd -/
/-! ===== drawers: more things than places ===== -/
theorem fb_holes : ∀ (m n : Nat) (f : Nat → Nat), (∀ i, i < n → f i < m) → (∀ i j, i < j → j < n → f i ≠ f j) → n ≤ m := by
  intro m
  induction m with
  | zero =>
    intro n f h1 _
    rcases Nat.eq_zero_or_pos n with h | h
    · omega
    · exact absurd (h1 0 h) (Nat.not_lt_zero _)
  | succ m ih =>
    intro n f h1 h2
    by_cases hx : ∃ i, i < n ∧ f i = m
    · obtain ⟨a, ha, hfa⟩ := hx
      have hg := ih (n - 1) (fun i => if i < a then f i else f (i + 1)) (by
        intro i hi
        by_cases q : i < a
        · simp only [if_pos q]
          have b1 := h1 i (by omega)
          have b2 := h2 i a q ha
          omega
        · simp only [if_neg q]
          have b1 := h1 (i + 1) (by omega)
          have b2 := h2 a (i + 1) (by omega) (by omega)
          omega) (by
        intro i j hij hj
        by_cases q : i < a
        · by_cases r : j < a
          · simp only [if_pos q, if_pos r]
            exact h2 i j hij (by omega)
          · simp only [if_pos q, if_neg r]
            exact h2 i (j + 1) (by omega) (by omega)
        · have r : ¬ j < a := by omega
          simp only [if_neg q, if_neg r]
          exact h2 (i + 1) (j + 1) (by omega) (by omega))
      omega
    · have hg := ih n f (fun i hi => by
        have b1 := h1 i hi
        have b2 : f i ≠ m := fun e => hx ⟨i, hi, e⟩
        omega) h2
      omega
/-- two of them in one place -/
theorem fb_twice {m n : Nat} {f : Nat → Nat} (h : ∀ i, i < n → f i < m) (hm : m < n) : ∃ i j, i < j ∧ j < n ∧ f i = f j := by
  refine Classical.byContradiction fun hx => ?_
  have := fb_holes m n f h (fun i j hij hj e => hx ⟨i, j, hij, hj, e⟩)
  omega
/-- as many as places, none twice: each place is taken -/
theorem fb_onto {n : Nat} {f : Nat → Nat} (h : ∀ i, i < n → f i < n) (h2 : ∀ i j, i < j → j < n → f i ≠ f j) {y : Nat} (hy : y < n) : ∃ i, i < n ∧ f i = y := by
  refine Classical.byContradiction fun hx => ?_
  have hne : ∀ i, i < n → f i ≠ y := fun i hi e => hx ⟨i, hi, e⟩
  have := fb_holes (n - 1) n (fun i => if f i < y then f i else f i - 1) (by
    intro i hi
    have b1 := h i hi
    have b2 := hne i hi
    by_cases q : f i < y
    · simp only [if_pos q]; omega
    · simp only [if_neg q]; omega) (by
    intro i j hij hj
    have b1 := hne i (by omega)
    have b2 := hne j hj
    have b3 := h2 i j hij hj
    by_cases q : f i < y
    · by_cases r : f j < y
      · simp only [if_pos q, if_pos r]; exact b3
      · simp only [if_pos q, if_neg r]; omega
    · by_cases r : f j < y
      · simp only [if_neg q, if_pos r]; omega
      · simp only [if_neg q, if_neg r]; omega)
  omega
/-! ===== how many places have a property ===== -/
def fb_ct (p : Nat → Bool) : Nat → Nat
  | 0 => 0
  | n + 1 => fb_ct p n + (if p n then 1 else 0)
theorem fb_ct_succ (p : Nat → Bool) (n : Nat) : fb_ct p (n + 1) = fb_ct p n + (if p n then 1 else 0) := rfl
theorem fb_ct_le (p : Nat → Bool) : ∀ n, fb_ct p n ≤ n
  | 0 => Nat.le_refl _
  | n + 1 => by
    have h := fb_ct_le p n
    rw [fb_ct_succ]
    split <;> omega
theorem fb_ct_step (p : Nat → Bool) (m : Nat) : ∀ n, fb_ct p m ≤ fb_ct p (m + n)
  | 0 => Nat.le_refl _
  | n + 1 => by
    have h := fb_ct_step p m n
    show fb_ct p m ≤ fb_ct p (m + n + 1)
    rw [fb_ct_succ]
    omega
theorem fb_ct_mono (p : Nat → Bool) {m n : Nat} (h : m ≤ n) : fb_ct p m ≤ fb_ct p n := by
  have := fb_ct_step p m (n - m)
  rwa [Nat.add_sub_cancel' h] at this
theorem fb_ct_cong {p q : Nat → Bool} : ∀ {n : Nat}, (∀ k, k < n → p k = q k) → fb_ct p n = fb_ct q n
  | 0, _ => rfl
  | n + 1, h => by
    rw [fb_ct_succ, fb_ct_succ, fb_ct_cong (fun k hk => h k (by omega)), h n (by omega)]
/-- one place changed -/
theorem fb_ct_out (p : Nat → Bool) (b : Bool) {i n : Nat} (h : n ≤ i) : fb_ct (fun k => if k = i then b else p k) n = fb_ct p n :=
  fb_ct_cong fun k hk => if_neg (by omega)
theorem fb_ct_upd (p : Nat → Bool) (b : Bool) {i : Nat} : ∀ {n : Nat}, i < n → fb_ct (fun k => if k = i then b else p k) n + (if p i then 1 else 0) = fb_ct p n + (if b then 1 else 0)
  | 0, h => absurd h (Nat.not_lt_zero i)
  | n + 1, h => by
    rw [fb_ct_succ, fb_ct_succ]
    rcases Nat.lt_or_ge i n with q | q
    · have := fb_ct_upd p b q
      have e : (if n = i then b else p n) = p n := if_neg (by omega)
      rw [e]
      omega
    · have e : i = n := by omega
      subst e
      rw [fb_ct_out p b (Nat.le_refl _)]
      simp only [if_true]
      omega
theorem fb_ct_sub {p q : Nat → Bool} : ∀ {n : Nat}, (∀ k, k < n → p k = true → q k = true) → fb_ct p n ≤ fb_ct q n
  | 0, _ => Nat.le_refl _
  | n + 1, h => by
    have h1 := fb_ct_sub (n := n) (p := p) (q := q) (fun k hk => h k (by omega))
    have h2 := h n (by omega)
    rw [fb_ct_succ, fb_ct_succ]
    cases hp : p n <;> cases hq : q n <;> simp_all <;> omega
theorem fb_ct_or {p q : Nat → Bool} : ∀ {n : Nat}, (∀ k, k < n → ¬ (p k = true ∧ q k = true)) → fb_ct (fun k => p k || q k) n = fb_ct p n + fb_ct q n
  | 0, _ => rfl
  | n + 1, h => by
    have h1 := fb_ct_or (n := n) (p := p) (q := q) (fun k hk => h k (by omega))
    have h2 := h n (by omega)
    rw [fb_ct_succ, fb_ct_succ, fb_ct_succ, h1]
    cases hp : p n <;> cases hq : q n <;> simp_all <;> omega
theorem fb_ct_not (p : Nat → Bool) : ∀ n, fb_ct p n + fb_ct (fun k => !p k) n = n
  | 0 => rfl
  | n + 1 => by
    have h := fb_ct_not p n
    rw [fb_ct_succ, fb_ct_succ]
    cases p n <;> simp <;> omega
theorem fb_ct_split (p : Nat → Bool) (m : Nat) : ∀ n, fb_ct p (m + n) = fb_ct p m + fb_ct (fun k => p (m + k)) n
  | 0 => rfl
  | n + 1 => by
    have h := fb_ct_split p m n
    show fb_ct p (m + n + 1) = _
    rw [fb_ct_succ, fb_ct_succ, h, Nat.add_assoc]
theorem fb_ct_zero {p : Nat → Bool} : ∀ {n : Nat}, fb_ct p n = 0 ↔ ∀ k, k < n → p k = false
  | 0 => ⟨fun _ k hk => absurd hk (Nat.not_lt_zero k), fun _ => rfl⟩
  | n + 1 => by
    have h := fb_ct_zero (p := p) (n := n)
    rw [fb_ct_succ]
    constructor
    · intro e k hk
      have e1 : fb_ct p n = 0 := by omega
      rcases Nat.lt_or_ge k n with q | q
      · exact h.mp e1 k q
      · have ek : k = n := by omega
        subst ek
        cases hp : p k
        · rfl
        · simp [hp] at e
    · intro a
      rw [h.mpr (fun k hk => a k (by omega)), a n (by omega)]
      rfl
theorem fb_ct_pos {p : Nat → Bool} {n : Nat} : 0 < fb_ct p n ↔ ∃ k, k < n ∧ p k = true := by
  constructor
  · intro h
    refine Classical.byContradiction fun hx => ?_
    have := fb_ct_zero.mpr (fun k hk => by
      cases hp : p k
      · rfl
      · exact absurd ⟨k, hk, hp⟩ hx : ∀ k, k < n → p k = false)
    omega
  · rintro ⟨k, hk, hp⟩
    rcases Nat.eq_zero_or_pos (fb_ct p n) with e | e
    · have := fb_ct_zero.mp e k hk
      rw [this] at hp
      cases hp
    · exact e
theorem fb_ct_all {p : Nat → Bool} {n : Nat} : fb_ct p n = n ↔ ∀ k, k < n → p k = true := by
  have h := fb_ct_not p n
  constructor
  · intro e k hk
    have z : fb_ct (fun k => !p k) n = 0 := by omega
    have := fb_ct_zero.mp z k hk
    cases hp : p k
    · simp [hp] at this
    · rfl
  · intro a
    have z : fb_ct (fun k => !p k) n = 0 := fb_ct_zero.mpr (fun k hk => by simp [a k hk])
    omega
/-- the k-th place with the property -/
theorem fb_ct_kth {p : Nat → Bool} {k : Nat} : ∀ {n : Nat}, k < fb_ct p n → ∃ i, i < n ∧ p i = true ∧ fb_ct p i = k
  | 0, h => absurd h (Nat.not_lt_zero k)
  | n + 1, h => by
    rcases Nat.lt_or_ge k (fb_ct p n) with q | q
    · obtain ⟨i, h1, h2⟩ := fb_ct_kth q
      exact ⟨i, by omega, h2⟩
    · rw [fb_ct_succ] at h
      cases hp : p n
      · simp [hp] at h; omega
      · simp [hp] at h
        exact ⟨n, by omega, hp, by omega⟩
theorem fb_ct_kth_one {p : Nat → Bool} {i j : Nat} (hi : p i = true) (hj : p j = true) (e : fb_ct p i = fb_ct p j) : i = j := by
  have key : ∀ a b : Nat, a < b → p a = true → fb_ct p a < fb_ct p b := by
    intro a b hab ha
    have h := fb_ct_mono p (show a + 1 ≤ b from hab)
    rw [fb_ct_succ, ha] at h
    simp at h
    omega
  rcases Nat.lt_trichotomy i j with q | q | q
  · have := key i j q hi; omega
  · exact q
  · have := key j i q hj; omega
/-! ===== sums over a range: one place changed, parts, bounds ===== -/
def fb_sm (f : Nat → Nat) : Nat → Nat
  | 0 => 0
  | n + 1 => fb_sm f n + f n
theorem fb_sm_succ (f : Nat → Nat) (n : Nat) : fb_sm f (n + 1) = fb_sm f n + f n := rfl
theorem fb_sm_cong {f g : Nat → Nat} : ∀ {n : Nat}, (∀ k, k < n → f k = g k) → fb_sm f n = fb_sm g n
  | 0, _ => rfl
  | n + 1, h => by rw [fb_sm_succ, fb_sm_succ, fb_sm_cong (fun k hk => h k (by omega)), h n (by omega)]
theorem fb_sm_out (f : Nat → Nat) (v : Nat) {i n : Nat} (h : n ≤ i) : fb_sm (fun k => if k = i then v else f k) n = fb_sm f n :=
  fb_sm_cong fun k hk => if_neg (by omega)
theorem fb_sm_upd (f : Nat → Nat) (v : Nat) {i : Nat} : ∀ {n : Nat}, i < n → fb_sm (fun k => if k = i then v else f k) n + f i = fb_sm f n + v
  | 0, h => absurd h (Nat.not_lt_zero i)
  | n + 1, h => by
    rw [fb_sm_succ, fb_sm_succ]
    rcases Nat.lt_or_ge i n with q | q
    · have := fb_sm_upd f v q
      have e : (if n = i then v else f n) = f n := if_neg (by omega)
      rw [e]
      omega
    · have e : i = n := by omega
      subst e
      rw [fb_sm_out f v (Nat.le_refl _)]
      simp only [if_true]
      omega
theorem fb_sm_add (f g : Nat → Nat) : ∀ n, fb_sm (fun k => f k + g k) n = fb_sm f n + fb_sm g n
  | 0 => rfl
  | n + 1 => by
    have h := fb_sm_add f g n
    rw [fb_sm_succ, fb_sm_succ, fb_sm_succ, h]
    omega
theorem fb_sm_le {f g : Nat → Nat} : ∀ {n : Nat}, (∀ k, k < n → f k ≤ g k) → fb_sm f n ≤ fb_sm g n
  | 0, _ => Nat.le_refl _
  | n + 1, h => by
    have h1 := fb_sm_le (n := n) (f := f) (g := g) (fun k hk => h k (by omega))
    have h2 := h n (by omega)
    rw [fb_sm_succ, fb_sm_succ]
    omega
theorem fb_sm_const (c : Nat) : ∀ n, fb_sm (fun _ => c) n = n * c
  | 0 => by rw [Nat.zero_mul]; rfl
  | n + 1 => by rw [fb_sm_succ, fb_sm_const c n, Nat.succ_mul]
theorem fb_sm_bound {f : Nat → Nat} {c n : Nat} (h : ∀ k, k < n → f k ≤ c) : fb_sm f n ≤ n * c := by
  rw [← fb_sm_const c n]
  exact fb_sm_le h
theorem fb_sm_mono (f : Nat → Nat) (m : Nat) : ∀ n, fb_sm f m ≤ fb_sm f (m + n)
  | 0 => Nat.le_refl _
  | n + 1 => by
    have h := fb_sm_mono f m n
    show fb_sm f m ≤ fb_sm f (m + n + 1)
    rw [fb_sm_succ]
    omega
theorem fb_sm_part (f : Nat → Nat) {i n : Nat} (h : i < n) : fb_sm f i + f i ≤ fb_sm f n := by
  have := fb_sm_mono f (i + 1) (n - (i + 1))
  rw [fb_sm_succ, show i + 1 + (n - (i + 1)) = n by omega] at this
  exact this
theorem fb_sm_split (f : Nat → Nat) (m : Nat) : ∀ n, fb_sm f (m + n) = fb_sm f m + fb_sm (fun k => f (m + k)) n
  | 0 => rfl
  | n + 1 => by
    have h := fb_sm_split f m n
    show fb_sm f (m + n + 1) = _
    rw [fb_sm_succ, fb_sm_succ, h, Nat.add_assoc]
theorem fb_sm_zero {f : Nat → Nat} {n : Nat} (h : fb_sm f n = 0) : ∀ k, k < n → f k = 0 := fun k hk => by
  have := fb_sm_part f hk
  omega
/-- the same over whole numbers -/
def fb_si (f : Nat → Int) : Nat → Int
  | 0 => 0
  | n + 1 => fb_si f n + f n
theorem fb_si_succ (f : Nat → Int) (n : Nat) : fb_si f (n + 1) = fb_si f n + f n := rfl
theorem fb_si_cong {f g : Nat → Int} : ∀ {n : Nat}, (∀ k, k < n → f k = g k) → fb_si f n = fb_si g n
  | 0, _ => rfl
  | n + 1, h => by rw [fb_si_succ, fb_si_succ, fb_si_cong (fun k hk => h k (by omega)), h n (by omega)]
theorem fb_si_out (f : Nat → Int) (v : Int) {i n : Nat} (h : n ≤ i) : fb_si (fun k => if k = i then v else f k) n = fb_si f n :=
  fb_si_cong fun k hk => if_neg (by omega)
theorem fb_si_upd (f : Nat → Int) (v : Int) {i : Nat} : ∀ {n : Nat}, i < n → fb_si (fun k => if k = i then v else f k) n = fb_si f n - f i + v
  | 0, h => absurd h (Nat.not_lt_zero i)
  | n + 1, h => by
    rw [fb_si_succ, fb_si_succ]
    rcases Nat.lt_or_ge i n with q | q
    · have := fb_si_upd f v q
      have e : (if n = i then v else f n) = f n := if_neg (by omega)
      rw [e]
      omega
    · have e : i = n := by omega
      subst e
      rw [fb_si_out f v (Nat.le_refl _)]
      simp only [if_true]
      omega
theorem fb_si_add (f g : Nat → Int) : ∀ n, fb_si (fun k => f k + g k) n = fb_si f n + fb_si g n
  | 0 => rfl
  | n + 1 => by
    have h := fb_si_add f g n
    rw [fb_si_succ, fb_si_succ, fb_si_succ, h]
    omega
theorem fb_si_sub (f g : Nat → Int) : ∀ n, fb_si (fun k => f k - g k) n = fb_si f n - fb_si g n
  | 0 => rfl
  | n + 1 => by
    have h := fb_si_sub f g n
    rw [fb_si_succ, fb_si_succ, fb_si_succ, h]
    omega
theorem fb_si_mul (c : Int) (f : Nat → Int) : ∀ n, fb_si (fun k => c * f k) n = c * fb_si f n
  | 0 => (Int.mul_zero c).symm
  | n + 1 => by
    have h := fb_si_mul c f n
    rw [fb_si_succ, fb_si_succ, h, Int.mul_add]
theorem fb_si_split (f : Nat → Int) (m : Nat) : ∀ n, fb_si f (m + n) = fb_si f m + fb_si (fun k => f (m + k)) n
  | 0 => (Int.add_zero _).symm
  | n + 1 => by
    have h := fb_si_split f m n
    show fb_si f (m + n + 1) = _
    rw [fb_si_succ, fb_si_succ, h, Int.add_assoc]
theorem fb_si_nat (f : Nat → Nat) : ∀ n, fb_si (fun k => (f k : Int)) n = (fb_sm f n : Int)
  | 0 => rfl
  | n + 1 => by
    have h := fb_si_nat f n
    rw [fb_si_succ, fb_sm_succ, h]
    omega
theorem fb_si_bound {f : Nat → Int} {c : Int} (hc : 0 ≤ c) : ∀ {n : Nat}, (∀ k, k < n → -c ≤ f k ∧ f k ≤ c) → -(n * c) ≤ fb_si f n ∧ fb_si f n ≤ n * c
  | 0, _ => by simp [fb_si]
  | n + 1, h => by
    have h1 := fb_si_bound (n := n) (f := f) hc (fun k hk => h k (by omega))
    have h2 := h n (by omega)
    have e : ((n + 1 : Nat) : Int) * c = n * c + c := by rw [Int.natCast_add, Int.add_mul]; simp
    rw [fb_si_succ, e]
    omega
/-! ===== bits of a long that isn't negative ===== -/
theorem fb_andL (a b : Nat) : lN a &&& lN b = lN (a &&& b) := by
  apply Int64.toBitVec_inj.1
  show BitVec.ofNat 64 a &&& BitVec.ofNat 64 b = BitVec.ofNat 64 (a &&& b)
  apply BitVec.eq_of_getLsbD_eq
  intro i hi
  simp [hi]
theorem fb_orL (a b : Nat) : lN a ||| lN b = lN (a ||| b) := by
  apply Int64.toBitVec_inj.1
  show BitVec.ofNat 64 a ||| BitVec.ofNat 64 b = BitVec.ofNat 64 (a ||| b)
  apply BitVec.eq_of_getLsbD_eq
  intro i hi
  simp [hi]
theorem fb_xorL (a b : Nat) : lN a ^^^ lN b = lN (a ^^^ b) := by
  apply Int64.toBitVec_inj.1
  show BitVec.ofNat 64 a ^^^ BitVec.ofNat 64 b = BitVec.ofNat 64 (a ^^^ b)
  apply BitVec.eq_of_getLsbD_eq
  intro i hi
  simp [hi]
theorem fb_xorI (a b : Nat) : nI a ^^^ nI b = nI (a ^^^ b) := by
  apply Int32.toBitVec_inj.1
  show BitVec.ofNat 32 a ^^^ BitVec.ofNat 32 b = BitVec.ofNat 32 (a ^^^ b)
  apply BitVec.eq_of_getLsbD_eq
  intro i hi
  simp [hi]
theorem fb_maskL (n k : Nat) : lN n &&& lN (2 ^ k - 1) = lN (n % 2 ^ k) := by rw [fb_andL, Nat.and_two_pow_sub_one_eq_mod]
theorem fb_or_sumL {a k : Nat} (b : Nat) (h : a < 2 ^ k) : lN (2 ^ k * b) ||| lN a = lN (2 ^ k * b + a) := by rw [fb_orL, Nat.two_pow_add_eq_or_of_lt h]
theorem fb_lN_inj {a b : Nat} (ha : a < 2 ^ 63) (hb : b < 2 ^ 63) : lN a = lN b ↔ a = b := by
  constructor
  · intro h
    have h1 : (BitVec.ofNat 64 a).toNat = (BitVec.ofNat 64 b).toNat := congrArg (fun x : Int64 => x.toBitVec.toNat) h
    rw [BitVec.toNat_ofNat, BitVec.toNat_ofNat, Nat.mod_eq_of_lt (by omega), Nat.mod_eq_of_lt (by omega)] at h1
    exact h1
  · rintro rfl; rfl
theorem fb_bit_nat (n j : Nat) : n &&& 2 ^ j = 0 ↔ n.testBit j = false := by
  constructor
  · intro h
    have h1 : (n &&& 2 ^ j).testBit j = false := by rw [h]; simp
    rw [Nat.testBit_and] at h1
    simpa using h1
  · intro h
    apply Nat.eq_of_testBit_eq
    intro i
    rw [Nat.testBit_and]
    by_cases hi : j = i
    · subst hi; simp [h]
    · first | (simp [Nat.testBit_two_pow, hi]; done) | (simp [Nat.testBit_two_pow_of_ne hi]; done)
/-- one bit of a long -/
theorem fb_bitL {n j : Nat} (hj : j < 63) : lN n &&& lN (2 ^ j) = 0 ↔ n.testBit j = false := by
  have h2 : (2 : Nat) ^ j < 2 ^ 63 := Nat.pow_lt_pow_right (by decide) hj
  have hle : n &&& 2 ^ j ≤ 2 ^ j := Nat.and_le_right
  rw [fb_andL, ← fb_bit_nat, show (0 : Int64) = lN 0 from rfl]
  exact fb_lN_inj (by omega) (by decide)
/-- a bit set, a bit taken off -/
theorem fb_bit_set (n j i : Nat) : (n ||| 2 ^ j).testBit i = (n.testBit i || decide (i = j)) := by
  rw [Nat.testBit_or]
  by_cases h : j = i
  · subst h; simp
  · have h2 : ¬ i = j := fun e => h e.symm
    first | (simp [Nat.testBit_two_pow, h, h2]; done) | (simp [Nat.testBit_two_pow_of_ne h, h2]; done)
theorem fb_bit_flip (n j i : Nat) : (n ^^^ 2 ^ j).testBit i = (n.testBit i ^^ decide (i = j)) := by
  rw [Nat.testBit_xor]
  by_cases h : j = i
  · subst h; simp
  · have h2 : ¬ i = j := fun e => h e.symm
    first | (simp [Nat.testBit_two_pow, h, h2]; done) | (simp [Nat.testBit_two_pow_of_ne h, h2]; done)
/-! ===== a stretch of an array written over by a function ===== -/
def fb_put {α : Type} (f g : Nat → α) (a n : Nat) : Nat → α := fun k => if a ≤ k ∧ k < a + n then g (k - a) else f k
theorem fb_put_0 {α : Type} (f g : Nat → α) (a : Nat) : fb_put f g a 0 = f := funext fun k => if_neg (by omega)
theorem fb_put_in {α : Type} {f g : Nat → α} {a n k : Nat} (h1 : a ≤ k) (h2 : k < a + n) : fb_put f g a n k = g (k - a) := if_pos ⟨h1, h2⟩
theorem fb_put_out {α : Type} {f g : Nat → α} {a n k : Nat} (h : k < a ∨ a + n ≤ k) : fb_put f g a n k = f k := if_neg (by omega)
theorem fb_put_succ (f g : Nat → Int32) (a n : Nat) : upd (fb_put f g a n) (a + n) (g n) = fb_put f g a (n + 1) := by
  funext k
  by_cases h : k = a + n
  · subst h
    simp [upd, fb_put]
  · by_cases h1 : a ≤ k ∧ k < a + n
    · have h2 : a ≤ k ∧ k < a + (n + 1) := by omega
      simp only [upd, fb_put, if_neg h, if_pos h1, if_pos h2]
    · have h2 : ¬ (a ≤ k ∧ k < a + (n + 1)) := by omega
      simp only [upd, fb_put, if_neg h, if_neg h1, if_neg h2]
/-- .. from the far end down -/
theorem fb_put_down (f g : Nat → Int32) {a n m : Nat} (h : m < n) : upd (fb_put f (fun k => g (k + (m + 1))) (a + (m + 1)) (n - (m + 1))) (a + m) (g m) = fb_put f (fun k => g (k + m)) (a + m) (n - m) := by
  funext k
  by_cases h0 : k = a + m
  · subst h0
    simp only [upd, if_true]
    rw [fb_put_in (by omega) (by omega)]
    exact congrArg g (by omega)
  · simp only [upd, if_neg h0]
    by_cases h1 : a + (m + 1) ≤ k ∧ k < a + (m + 1) + (n - (m + 1))
    · rw [fb_put_in h1.1 h1.2, fb_put_in (by omega) (by omega)]
      exact congrArg g (by omega)
    · rw [fb_put_out (by omega), fb_put_out (by omega)]
theorem fb_put_cong {α : Type} {f f2 g g2 : Nat → α} {a n : Nat} (hf : ∀ k, (k < a ∨ a + n ≤ k) → f k = f2 k) (hg : ∀ k, k < n → g k = g2 k) : fb_put f g a n = fb_put f2 g2 a n := by
  funext k
  by_cases h : a ≤ k ∧ k < a + n
  · rw [fb_put_in h.1 h.2, fb_put_in h.1 h.2, hg _ (by omega)]
  · rw [fb_put_out (by omega), fb_put_out (by omega), hf _ (by omega)]
/-! ===== the least, the first, the best so far; that there is one alone ===== -/
theorem fb_first {p : Nat → Prop} [DecidablePred p] : ∀ {n : Nat}, (∃ i, i < n ∧ p i) → ∃ i, i < n ∧ p i ∧ ∀ j, j < i → ¬ p j
  | 0, h => by obtain ⟨i, hi, -⟩ := h; exact absurd hi (Nat.not_lt_zero i)
  | n + 1, h => by
    by_cases q : ∃ i, i < n ∧ p i
    · obtain ⟨i, h1, h2⟩ := fb_first q
      exact ⟨i, by omega, h2⟩
    · obtain ⟨i, h1, h2⟩ := h
      have e : i = n := by
        rcases Nat.lt_or_ge i n with r | r
        · exact absurd ⟨i, r, h2⟩ q
        · omega
      subst e
      exact ⟨i, by omega, h2, fun j hj hp => q ⟨j, hj, hp⟩⟩
theorem fb_first_one {p : Nat → Prop} {i j : Nat} (hi : p i) (hi2 : ∀ k, k < i → ¬ p k) (hj : p j) (hj2 : ∀ k, k < j → ¬ p k) : i = j := by
  rcases Nat.lt_trichotomy i j with q | q | q
  · exact absurd hi (hj2 i q)
  · exact q
  · exact absurd hj (hi2 j q)
theorem fb_last {p : Nat → Prop} [DecidablePred p] : ∀ {n : Nat}, (∃ i, i < n ∧ p i) → ∃ i, i < n ∧ p i ∧ ∀ j, i < j → j < n → ¬ p j
  | 0, h => by obtain ⟨i, hi, -⟩ := h; exact absurd hi (Nat.not_lt_zero i)
  | n + 1, h => by
    by_cases q : p n
    · exact ⟨n, by omega, q, fun j h1 h2 => by omega⟩
    · obtain ⟨i, h1, h2⟩ := h
      have hi : i < n := by
        rcases Nat.lt_or_ge i n with r | r
        · exact r
        · have e : i = n := by omega
          subst e
          exact absurd h2 q
      obtain ⟨i2, a1, a2, a3⟩ := fb_last (n := n) ⟨i, hi, h2⟩
      refine ⟨i2, by omega, a2, fun j b1 b2 => ?_⟩
      rcases Nat.lt_or_ge j n with r | r
      · exact a3 j b1 r
      · have e : j = n := by omega
        subst e
        exact q
/-- the first greatest -/
theorem fb_best (f : Nat → Int) : ∀ {n : Nat}, 0 < n → ∃ i, i < n ∧ (∀ j, j < n → f j ≤ f i) ∧ ∀ j, j < i → f j < f i
  | 0, h => absurd h (Nat.lt_irrefl 0)
  | 1, _ => ⟨0, by omega, fun j hj => by have e : j = 0 := by omega
                                         subst e; exact Int.le_refl _, fun j hj => absurd hj (Nat.not_lt_zero j)⟩
  | n + 2, _ => by
    obtain ⟨i, h1, h2, h3⟩ := fb_best f (n := n + 1) (by omega)
    by_cases q : f i < f (n + 1)
    · refine ⟨n + 1, by omega, fun j hj => ?_, fun j hj => ?_⟩
      · rcases Nat.lt_or_ge j (n + 1) with r | r
        · have := h2 j r; omega
        · have e : j = n + 1 := by omega
          subst e; exact Int.le_refl _
      · have := h2 j hj; omega
    · refine ⟨i, by omega, fun j hj => ?_, h3⟩
      rcases Nat.lt_or_ge j (n + 1) with r | r
      · exact h2 j r
      · have e : j = n + 1 := by omega
        subst e; omega
theorem fb_best_one {f : Nat → Int} {n i j : Nat} (hi : i < n) (hi2 : ∀ k, k < n → f k ≤ f i) (hi3 : ∀ k, k < i → f k < f i) (hj : j < n) (hj2 : ∀ k, k < n → f k ≤ f j) (hj3 : ∀ k, k < j → f k < f j) : i = j := by
  rcases Nat.lt_trichotomy i j with q | q | q
  · have a := hj3 i q
    have b := hi2 j hj
    omega
  · exact q
  · have a := hi3 j q
    have b := hj2 i hi
    omega
/-- the first least -/
theorem fb_low (f : Nat → Int) {n : Nat} (h : 0 < n) : ∃ i, i < n ∧ (∀ j, j < n → f i ≤ f j) ∧ ∀ j, j < i → f i < f j := by
  obtain ⟨i, h1, h2, h3⟩ := fb_best (fun k => -f k) h
  exact ⟨i, h1, fun j hj => by have := h2 j hj; omega, fun j hj => by have := h3 j hj; omega⟩
/-! ===== signed ints as whole numbers, within bounds ===== -/
theorem fb_rng (x : Int32) : -2147483648 ≤ x.toInt ∧ x.toInt < 2147483648 := by
  have h1 := Int32.le_toInt x
  have h2 := Int32.toInt_lt x
  omega
theorem fb_bmod {z : Int} (h1 : -2147483648 ≤ z) (h2 : z < 2147483648) : z.bmod (2 ^ 32) = z := by
  rw [Int.bmod_eq_of_le (by omega) (by omega)]
theorem fb_addI {x y : Int32} (h1 : -2147483648 ≤ x.toInt + y.toInt) (h2 : x.toInt + y.toInt < 2147483648) : (x + y).toInt = x.toInt + y.toInt := by
  rw [Int32.toInt_add, fb_bmod h1 h2]
theorem fb_subI {x y : Int32} (h1 : -2147483648 ≤ x.toInt - y.toInt) (h2 : x.toInt - y.toInt < 2147483648) : (x - y).toInt = x.toInt - y.toInt := by
  rw [Int32.toInt_sub, fb_bmod h1 h2]
theorem fb_mulI {x y : Int32} (h1 : -2147483648 ≤ x.toInt * y.toInt) (h2 : x.toInt * y.toInt < 2147483648) : (x * y).toInt = x.toInt * y.toInt := by
  rw [Int32.toInt_mul, fb_bmod h1 h2]
theorem fb_negI {x : Int32} (h : x.toInt ≠ -2147483648) : (-x).toInt = -x.toInt := by
  have := fb_rng x
  rw [Int32.toInt_neg, fb_bmod (by omega) (by omega)]
theorem fb_ofI {z : Int} (h1 : -2147483648 ≤ z) (h2 : z < 2147483648) : (Int32.ofInt z).toInt = z := by
  rw [Int32.toInt_ofInt, fb_bmod h1 h2]
theorem fb_asI (x : Int32) : Int32.ofInt x.toInt = x := Int32.ofInt_toInt x
theorem fb_rngL (x : Int64) : -9223372036854775808 ≤ x.toInt ∧ x.toInt < 9223372036854775808 := by
  have h1 := Int64.le_toInt x
  have h2 := Int64.toInt_lt x
  omega
theorem fb_bmodL {z : Int} (h1 : -9223372036854775808 ≤ z) (h2 : z < 9223372036854775808) : z.bmod (2 ^ 64) = z := by
  rw [Int.bmod_eq_of_le (by omega) (by omega)]
theorem fb_addL {x y : Int64} (h1 : -9223372036854775808 ≤ x.toInt + y.toInt) (h2 : x.toInt + y.toInt < 9223372036854775808) : (x + y).toInt = x.toInt + y.toInt := by
  rw [Int64.toInt_add, fb_bmodL h1 h2]
theorem fb_subL {x y : Int64} (h1 : -9223372036854775808 ≤ x.toInt - y.toInt) (h2 : x.toInt - y.toInt < 9223372036854775808) : (x - y).toInt = x.toInt - y.toInt := by
  rw [Int64.toInt_sub, fb_bmodL h1 h2]
theorem fb_mulL {x y : Int64} (h1 : -9223372036854775808 ≤ x.toInt * y.toInt) (h2 : x.toInt * y.toInt < 9223372036854775808) : (x * y).toInt = x.toInt * y.toInt := by
  rw [Int64.toInt_mul, fb_bmodL h1 h2]
/-! ===== cuts of what is narrow already ===== -/
theorem fb_byte {x : Int32} (h1 : -128 ≤ x.toInt) (h2 : x.toInt < 128) : x.toInt8.toInt32 = x := by
  apply Int32.toInt_inj.1
  rw [Int8.toInt_toInt32, Int32.toInt_toInt8, Int.bmod_eq_of_le (by omega) (by omega)]
theorem fb_short {x : Int32} (h1 : -32768 ≤ x.toInt) (h2 : x.toInt < 32768) : x.toInt16.toInt32 = x := by
  apply Int32.toInt_inj.1
  rw [Int16.toInt_toInt32, Int32.toInt_toInt16, Int.bmod_eq_of_le (by omega) (by omega)]
theorem fb_byte_rng (x : Int32) : -128 ≤ x.toInt8.toInt32.toInt ∧ x.toInt8.toInt32.toInt < 128 := by
  rw [Int8.toInt_toInt32]
  have h1 := Int8.le_toInt x.toInt8
  have h2 := Int8.toInt_lt x.toInt8
  omega
theorem fb_short_rng (x : Int32) : -32768 ≤ x.toInt16.toInt32.toInt ∧ x.toInt16.toInt32.toInt < 32768 := by
  rw [Int16.toInt_toInt32]
  have h1 := Int16.le_toInt x.toInt16
  have h2 := Int16.toInt_lt x.toInt16
  omega
theorem fb_byte_twice (x : Int32) : x.toInt8.toInt32.toInt8.toInt32 = x.toInt8.toInt32 := fb_byte (fb_byte_rng x).1 (fb_byte_rng x).2
theorem fb_short_twice (x : Int32) : x.toInt16.toInt32.toInt16.toInt32 = x.toInt16.toInt32 := fb_short (fb_short_rng x).1 (fb_short_rng x).2
theorem fb_char {n : Nat} (h : n < 65536) : (nI n).toUInt32.toUInt16.toUInt32.toInt32 = nI n := by
  apply Int32.toBitVec_inj.1
  apply BitVec.eq_of_toNat_eq
  have e1 : (nI n).toBitVec.toNat = n := by
    show (BitVec.ofNat 32 n).toNat = n
    rw [BitVec.toNat_ofNat, Nat.mod_eq_of_lt (by omega)]
  have e2 : ((nI n).toUInt32.toUInt16.toUInt32).toNat = n := by
    rw [UInt16.toNat_toUInt32, UInt32.toNat_toUInt16]
    show (nI n).toBitVec.toNat % 2 ^ 16 = n
    rw [e1, Nat.mod_eq_of_lt (by omega)]
  rw [e1]
  exact e2
end
section
/-! what every contract of this claim is said in: gR (reads), gI/gO (writes), and the two ends of a body and of a call -/
abbrev vwCl : List vw_C := [(RX0, TX0, 2), (RX1, TX1, 9), (RX2, TX2, 1), (RX3, TX3, 5), (RX4, TX4, 17)]
noncomputable def gb (P : Prop) : Int32 := @ite _ P (Classical.propDecidable P) 1 0
theorem gb_t {P : Prop} (h : P) : gb P = 1 := by unfold gb; exact if_pos h
theorem gb_f {P : Prop} (h : ¬ P) : gb P = 0 := by unfold gb; exact if_neg h
theorem gb_eq0 {P : Prop} : gb P = 0 ↔ ¬ P := by
  refine ⟨fun h hp => ?_, gb_f⟩
  rw [gb_t hp] at h
  exact absurd h (by decide)
theorem gb_ne0 {P : Prop} : ¬ gb P = 0 ↔ P := by
  rw [gb_eq0]; exact Classical.not_not
theorem gb_cong {P Q : Prop} (h : P ↔ Q) : gb P = gb Q := by rw [propext h]
theorem gb_01 (P : Prop) : gb P = 0 ∨ gb P = 1 := by
  by_cases h : P
  · exact Or.inr (gb_t h)
  · exact Or.inl (gb_f h)
theorem gb_nar (P : Prop) : narrow .boolean (.int (gb P)) = .int (gb P) := by
  rcases gb_01 P with h | h <;> rw [h] <;> rfl
theorem gb_fit (P : Prop) : fits .boolean (.int (gb P)) = true := by
  rcases gb_01 P with h | h <;> rw [h] <;> rfl
/-- a value between two whole numbers -/
abbrev pIn (v : Int32) (lo hi : Int) : Prop := lo ≤ v.toInt ∧ v.toInt ≤ hi
theorem pIn_nat {v : Int32} {n : Nat} (h : pIn v 0 n) : ∃ j : Nat, j ≤ n ∧ v = nI j := by
  have h2 := fb_rng v
  have h0 : 0 ≤ v.toInt := h.1
  have h1 : v.toInt ≤ (n : Int) := h.2
  refine ⟨v.toInt.toNat, by omega, Int32.toInt_inj.mp ?_⟩
  rw [nI_toInt (by omega)]
  omega
theorem pIn_nI {j : Nat} {lo hi : Int} (hj : j < 2 ^ 31) : pIn (nI j) lo hi ↔ lo ≤ (j : Int) ∧ (j : Int) ≤ hi := by
  show lo ≤ (nI j).toInt ∧ (nI j).toInt ≤ hi ↔ _
  rw [nI_toInt hj]
/-- what stays true of the machine while the program runs -/
def gG (D : va_G) (tys : List (ClassId × FieldType)) (U : State) : Prop := va_K D vwCl tys U ∧ va_Nw (.methodLinkNest RX2 22 yX3_cellAt RX3) U ∧ va_Nw (.methodLinkNest RX1 17 yX2_init RX3) U ∧ va_Nw (.methodLinkNest RX1 24 yX0_init RX3) U ∧ va_Nw (.methodLinkNest RX3 9 yX2_init RX3) U ∧ va_Nw (.methodLinkNest RX3 33 yX1_init RX3) U
theorem gG.warm {D : va_G} {tys : List (ClassId × FieldType)} {s U : State} (h : gG D tys s) (hW : s.WarmedH U.vm) : gG D tys U :=
  ⟨va_K.moved hW.alike h.1, va_Nw.warmM hW h.2.1, va_Nw.warmM hW h.2.2.1, va_Nw.warmM hW h.2.2.2.1, va_Nw.warmM hW h.2.2.2.2.1, va_Nw.warmM hW h.2.2.2.2.2⟩
theorem gG.vm {D : va_G} {tys : List (ClassId × FieldType)} {s U : State} (h : gG D tys s) (hW : s.vm = U.vm) : gG D tys U :=
  ⟨va_K.moved (by rw [← hW]; exact Vm.Alike.refl s.vm) h.1, va_Nw.same rfl hW h.2.1, va_Nw.same rfl hW h.2.2.1, va_Nw.same rfl hW h.2.2.2.1, va_Nw.same rfl hW h.2.2.2.2.1, va_Nw.same rfl hW h.2.2.2.2.2⟩
def gR (D : va_G) (tys : List (ClassId × FieldType)) (wd : va_W) : State → Prop := fun U => va_P D vwCl wd U.heap ∧ gG D tys U
def gI (D : va_G) (tys : List (ClassId × FieldType)) (wd : va_W) (sz : Nat) : State → Prop := fun U => U.heap.size = sz ∧ va_P D vwCl wd U.heap ∧ gG D tys U ∧ va_D (fun _ => True) wd
def gO {S : Type} (D : va_G) (wo : S → va_W) (A : Nat → Prop) : S → State → Prop := fun u t => va_P D vwCl (wo u) t.heap ∧ va_D A (wo u)
theorem gR_blind {av : List Value} {D : va_G} {tys : List (ClassId × FieldType)} {wd : va_W} : FrameBlind (va_Pc av (gR D tys wd)) := fun a U g mk q => ⟨q.1, q.2.1, gG.vm (U := U.calling g mk a) q.2.2 rfl⟩
theorem gI_blind {av : List Value} {D : va_G} {tys : List (ClassId × FieldType)} {wd : va_W} {sz : Nat} : FrameBlind (va_Pc av (gI D tys wd sz)) := fun a U g mk q => ⟨q.1, q.2.1, q.2.2.1, gG.vm (U := U.calling g mk a) q.2.2.2.1 rfl, q.2.2.2.2⟩
/-- what a body stands on -/
def gFx (own : String) (cc : ByteArray) (maxL : Nat) (ws : List Cond) (p : Program) (s : State) (m : MethodId) (args : Array Value) (meth : Method) (c : Code) : Prop :=
  p.tables.exec = Jvm.exec ∧ c.code = cc ∧ c.maxLocals = maxL ∧ s.vm.findClass own = some m.cls ∧ (∀ w ∈ ws, w.before args s = true) ∧ meth.locks = false
section GM
variable {l : Launch} {y : MethodName} {ws ws' : List Cond} {rm : Room} {cc : ByteArray} {maxL : Nat} {ty : FieldType} {av : List Value} {D : va_G} {tys : List (ClassId × FieldType)} {wd : va_W}
theorem gM_i {post : Int32 → Prop} (hy : plainName y.cls = true) (hw : ws = Cond.code y cc maxL (some ty) :: ws') (hlen : (lg_sl av).length ≤ maxL) (hn : ∀ v, post v → narrow ty (.int v) = .int v)
    (body : ∀ (p : Program) (e : Env) (s : State) (m : MethodId) (below : List Frame) (meth : Method) (c : Code) (Q : State → Prop) (ls : Array Slot), gFx y.cls cc maxL ws p s m av.toArray meth c → va_P D vwCl wd s.heap → gG D tys s →
      (∀ (pc : Nat) (ls : Array Slot) (v : Int32), decode cc pc = .ok (.ireturn, 1) → post v → W p l e rm s m av.toArray below meth c s.heap [] 0 0 Q (F0 m pc ls [.int v])) →
      lv_has ls maxL (lv_args 0 av) → W p l e rm s m av.toArray below meth c s.heap [] 0 0 Q (F0 m 0 ls [])) : Met l y ws rm (va_Pc av (gR D tys wd)) (vp_Si post) 0 0 (fun _ => False) := by
  refine Met.ofW (cc := cc) (maxL := maxL) (ret := some ty) hy hw ?_
  intro p e s m args below meth c s₁ B hml hv
  obtain ⟨rfl, hP, hG⟩ := hv
  rw [lg_entry_eq]
  exact body p e s m below meth c _ _ ⟨B.exec, B.bytes, hml, findClass_of_methodNamed B.named, atoms_spec (ws := ws) B.pre, B.notSynchronized⟩ hP hG
    (fun pc ls v hd hp => W.zret B.exec B.bytes B.returns (hn v hp) (fun t ht hW => ⟨v, rfl, hp, ht⟩) (fun q hq => nomatch hq) hd B.notSynchronized) (lv_entry av hlen)
theorem gM_l {post : Int64 → Prop} (hy : plainName y.cls = true) (hw : ws = Cond.code y cc maxL (some .long) :: ws') (hlen : (lg_sl av).length ≤ maxL)
    (body : ∀ (p : Program) (e : Env) (s : State) (m : MethodId) (below : List Frame) (meth : Method) (c : Code) (Q : State → Prop) (ls : Array Slot), gFx y.cls cc maxL ws p s m av.toArray meth c → va_P D vwCl wd s.heap → gG D tys s →
      (∀ (pc : Nat) (ls : Array Slot) (v : Int64), decode cc pc = .ok (.lreturn, 1) → post v → W p l e rm s m av.toArray below meth c s.heap [] 0 0 Q (F0 m pc ls [.long v])) →
      lv_has ls maxL (lv_args 0 av) → W p l e rm s m av.toArray below meth c s.heap [] 0 0 Q (F0 m 0 ls [])) : Met l y ws rm (va_Pc av (gR D tys wd)) (vp_Sl post) 0 0 (fun _ => False) := by
  refine Met.ofW (cc := cc) (maxL := maxL) (ret := some .long) hy hw ?_
  intro p e s m args below meth c s₁ B hml hv
  obtain ⟨rfl, hP, hG⟩ := hv
  rw [lg_entry_eq]
  exact body p e s m below meth c _ _ ⟨B.exec, B.bytes, hml, findClass_of_methodNamed B.named, atoms_spec (ws := ws) B.pre, B.notSynchronized⟩ hP hG
    (fun pc ls v hd hp => W.lret B.exec B.bytes B.returns (fun t ht hW => ⟨v, rfl, hp, ht⟩) (fun q hq => nomatch hq) hd B.notSynchronized) (lv_entry av hlen)
theorem gM_v (hy : plainName y.cls = true) (hw : ws = Cond.code y cc maxL none :: ws') (hlen : (lg_sl av).length ≤ maxL)
    (body : ∀ (p : Program) (e : Env) (s : State) (m : MethodId) (below : List Frame) (meth : Method) (c : Code) (Q : State → Prop) (ls : Array Slot), gFx y.cls cc maxL ws p s m av.toArray meth c → va_P D vwCl wd s.heap → gG D tys s →
      (∀ (pc : Nat) (ls : Array Slot), decode cc pc = .ok (.return_, 1) → W p l e rm s m av.toArray below meth c s.heap [] 0 0 Q (F0 m pc ls [])) →
      lv_has ls maxL (lv_args 0 av) → W p l e rm s m av.toArray below meth c s.heap [] 0 0 Q (F0 m 0 ls [])) : Met l y ws rm (va_Pc av (gR D tys wd)) (va_Sv (fun _ => True)) 0 0 (fun _ => False) := by
  refine Met.ofW (cc := cc) (maxL := maxL) (ret := none) hy hw ?_
  intro p e s m args below meth c s₁ B hml hv
  obtain ⟨rfl, hP, hG⟩ := hv
  rw [lg_entry_eq]
  exact body p e s m below meth c _ _ ⟨B.exec, B.bytes, hml, findClass_of_methodNamed B.named, atoms_spec (ws := ws) B.pre, B.notSynchronized⟩ hP hG
    (fun pc ls hd => W.vret B.exec B.bytes B.returns (fun t ht hW => ⟨rfl, trivial, ht⟩) (fun q hq => nomatch hq) hd B.notSynchronized) (lv_entry av hlen)
theorem gM_a {n9 : String} {a : Nat} (hy : plainName y.cls = true) (hw : ws = Cond.code y cc maxL (some (.object n9)) :: ws') (hlen : (lg_sl av).length ≤ maxL)
    (body : ∀ (p : Program) (e : Env) (s : State) (m : MethodId) (below : List Frame) (meth : Method) (c : Code) (Q : State → Prop) (ls : Array Slot), gFx y.cls cc maxL ws p s m av.toArray meth c → va_P D vwCl wd s.heap → gG D tys s →
      (∀ (pc : Nat) (ls : Array Slot), decode cc pc = .ok (.areturn, 1) → W p l e rm s m av.toArray below meth c s.heap [] 0 0 Q (F0 m pc ls [.ref a])) →
      lv_has ls maxL (lv_args 0 av) → W p l e rm s m av.toArray below meth c s.heap [] 0 0 Q (F0 m 0 ls [])) : Met l y ws rm (va_Pc av (gR D tys wd)) (va_Sr (fun k => k = a) Value.ref) 0 0 (fun _ => False) := by
  refine Met.ofW (cc := cc) (maxL := maxL) (ret := some (.object n9)) hy hw ?_
  intro p e s m args below meth c s₁ B hml hv
  obtain ⟨rfl, hP, hG⟩ := hv
  rw [lg_entry_eq]
  exact body p e s m below meth c _ _ ⟨B.exec, B.bytes, hml, findClass_of_methodNamed B.named, atoms_spec (ws := ws) B.pre, B.notSynchronized⟩ hP hG
    (fun pc ls hd => W.aret B.exec B.bytes B.returns (Or.inl ⟨_, rfl⟩) (Or.inr ⟨_, rfl⟩) (fun t ht hW => ⟨a, rfl, rfl, ht⟩) (fun q hq => nomatch hq) hd B.notSynchronized) (lv_entry av hlen)
theorem gW_i {S : Type} {post : Int32 → S → Prop} {wo : S → va_W} {sz : Nat} (hy : plainName y.cls = true) (hw : ws = Cond.code y cc maxL (some ty) :: ws') (hlen : (lg_sl av).length ≤ maxL) (hn : ∀ v u, post v u → narrow ty (.int v) = .int v)
    (body : ∀ (p : Program) (e : Env) (s : State) (m : MethodId) (below : List Frame) (meth : Method) (c : Code) (Q : State → Prop) (A : Nat → Prop) (ls : Array Slot), gFx y.cls cc maxL ws p s m av.toArray meth c → va_P D vwCl wd s.heap → gG D tys s → va_D A wd → (∀ q : Nat, s.heap.size ≤ q → A q) →
      (∀ (H : Heap) (locs : List Loc) (pc : Nat) (ls : Array Slot) (v : Int32) (u : S), decode cc pc = .ok (.ireturn, 1) → post v u → va_P D vwCl (wo u) H → va_D A (wo u) → va_S A s.heap H locs → W p l e rm s m av.toArray below meth c H locs 0 0 Q (F0 m pc ls [.int v])) →
      lv_has ls maxL (lv_args 0 av) → W p l e rm s m av.toArray below meth c s.heap [] 0 0 Q (F0 m 0 ls [])) : Met l y ws rm (va_Pc av (gI D tys wd sz)) (va_Qi post (gO D wo (va_A wd sz)) (va_A wd sz)) 0 0 (va_A wd sz) := by
  refine Met.ofW (cc := cc) (maxL := maxL) (ret := some ty) hy hw ?_
  intro p e s m args below meth c s₁ B hml hv
  obtain ⟨rfl, hsz, hP, hG, hD⟩ := hv
  subst hsz
  rw [lg_entry_eq]
  exact body p e s m below meth c _ (va_A wd s.heap.size) _ ⟨B.exec, B.bytes, hml, findClass_of_methodNamed B.named, atoms_spec (ws := ws) B.pre, B.notSynchronized⟩ hP hG hD.self (fun q h => Or.inr h)
    (fun H locs pc ls v u hd hp hPo hDo hS => W.zret B.exec B.bytes B.returns (hn v u hp) (fun t ht hW => ⟨⟨v, u, rfl, hp, by rw [ht]; exact hPo, hDo⟩, hS.F ht⟩) hS.2.2 hd B.notSynchronized) (lv_entry av hlen)
theorem gW_v {S : Type} {post : S → Prop} {wo : S → va_W} {sz : Nat} (hy : plainName y.cls = true) (hw : ws = Cond.code y cc maxL none :: ws') (hlen : (lg_sl av).length ≤ maxL)
    (body : ∀ (p : Program) (e : Env) (s : State) (m : MethodId) (below : List Frame) (meth : Method) (c : Code) (Q : State → Prop) (A : Nat → Prop) (ls : Array Slot), gFx y.cls cc maxL ws p s m av.toArray meth c → va_P D vwCl wd s.heap → gG D tys s → va_D A wd → (∀ q : Nat, s.heap.size ≤ q → A q) →
      (∀ (H : Heap) (locs : List Loc) (pc : Nat) (ls : Array Slot) (u : S), decode cc pc = .ok (.return_, 1) → post u → va_P D vwCl (wo u) H → va_D A (wo u) → va_S A s.heap H locs → W p l e rm s m av.toArray below meth c H locs 0 0 Q (F0 m pc ls [])) →
      lv_has ls maxL (lv_args 0 av) → W p l e rm s m av.toArray below meth c s.heap [] 0 0 Q (F0 m 0 ls [])) : Met l y ws rm (va_Pc av (gI D tys wd sz)) (va_Qv post (gO D wo (va_A wd sz)) (va_A wd sz)) 0 0 (va_A wd sz) := by
  refine Met.ofW (cc := cc) (maxL := maxL) (ret := none) hy hw ?_
  intro p e s m args below meth c s₁ B hml hv
  obtain ⟨rfl, hsz, hP, hG, hD⟩ := hv
  subst hsz
  rw [lg_entry_eq]
  exact body p e s m below meth c _ (va_A wd s.heap.size) _ ⟨B.exec, B.bytes, hml, findClass_of_methodNamed B.named, atoms_spec (ws := ws) B.pre, B.notSynchronized⟩ hP hG hD.self (fun q h => Or.inr h)
    (fun H locs pc ls u hd hp hPo hDo hS => W.vret B.exec B.bytes B.returns (fun t ht hW => ⟨⟨u, rfl, hp, by rw [ht]; exact hPo, hDo⟩, hS.F ht⟩) hS.2.2 hd B.notSynchronized) (lv_entry av hlen)
end GM
theorem g_fm {w wn : va_W} {is : List Nat} (h : is.map (fun i => w[i]?) = wn.map some) : is.filterMap (fun i => w[i]?) = wn := by
  have e : is.filterMap (fun i => w[i]?) = (is.map (fun i => w[i]?)).filterMap id := by rw [List.filterMap_map]; rfl
  rw [e, h, List.filterMap_map]
  exact List.filterMap_some
section GC
variable {p : Program} {l : Launch} {e : Env} {R : Room} {s : State} {m : MethodId} {args : Array Value} {below : List Frame} {meth : Method} {c : Code} {H : Heap} {locs : List Loc} {cells slots : Nat} {Q : State → Prop}
variable {pc : Nat} {ls : Array Slot} {rest st0 : List Value} {a : Array Value} {D : va_G} {tys : List (ClassId × FieldType)}
/-- the start of a call of ours, on an object or on none -/
theorem gpVR {b : Nat} {As : List Value} {wc : va_W} {ci q0 : Nat} {fs : List Value} {q : vw_C} (hG : gG D tys s) (hP : va_P D vwCl wc H) (hc : vwCl[ci]? = some q) (he : wc[q0]? = some (b, .inr (ci, fs))) : PreV s H q.1 b (va_Pc (.ref b :: As) (gR D tys wc)) As :=
  ⟨gR_blind, va_recv hG.1 hP hc he, fun U hU hW => ⟨rfl, by rw [hU]; exact hP, hG.warm hW⟩⟩
theorem gpSR {As : List Value} {wc : va_W} (hG : gG D tys s) (hP : va_P D vwCl wc H) : PreS s H (va_Pc As (gR D tys wc)) As :=
  ⟨gR_blind, fun U hU hW => ⟨rfl, by rw [hU]; exact hP, hG.warm hW⟩⟩
theorem gpVI {b : Nat} {As : List Value} {wc : va_W} {A0 : Nat → Prop} {ci q0 : Nat} {fs : List Value} {q : vw_C} (hG : gG D tys s) (hP : va_P D vwCl wc H) (hD : va_D A0 wc) (hc : vwCl[ci]? = some q) (he : wc[q0]? = some (b, .inr (ci, fs))) : PreV s H q.1 b (va_Pc (.ref b :: As) (gI D tys wc H.size)) As :=
  ⟨gI_blind, va_recv hG.1 hP hc he, fun U hU hW => ⟨rfl, by rw [hU], by rw [hU]; exact hP, hG.warm hW, hD.weaken (fun _ _ _ _ => trivial)⟩⟩
theorem gpSI {As : List Value} {wc : va_W} {A0 : Nat → Prop} (hG : gG D tys s) (hP : va_P D vwCl wc H) (hD : va_D A0 wc) : PreS s H (va_Pc As (gI D tys wc H.size)) As :=
  ⟨gI_blind, fun U hU hW => ⟨rfl, by rw [hU], by rw [hU]; exact hP, hG.warm hW, hD.weaken (fun _ _ _ _ => trivial)⟩⟩
/-- behind a call that reads -/
theorem gc_Si {E : Int32} (hr : va_Run p l e R s m args below meth c H locs cells slots 0 0 (F0 m pc ls st0) rest (vp_Si (fun r => r = E) a) (fun _ => False)) (kk : W p l e R s m args below meth c H locs cells slots Q (F0 m (pc + 3) ls (.int E :: rest))) : W p l e R s m args below meth c H locs cells slots Q (F0 m pc ls st0) :=
  vp_callSi (va_Run.run hr) (fun r hr => by rw [hr]; exact kk)
theorem gc_Sl {E : Int64} (hr : va_Run p l e R s m args below meth c H locs cells slots 0 0 (F0 m pc ls st0) rest (vp_Sl (fun r => r = E) a) (fun _ => False)) (kk : W p l e R s m args below meth c H locs cells slots Q (F0 m (pc + 3) ls (.long E :: rest))) : W p l e R s m args below meth c H locs cells slots Q (F0 m pc ls st0) :=
  vp_callSl (va_Run.run hr) (fun r hr => by rw [hr]; exact kk)
theorem gc_Sa {E : Nat} (hr : va_Run p l e R s m args below meth c H locs cells slots 0 0 (F0 m pc ls st0) rest (va_Sr (fun k => k = E) Value.ref a) (fun _ => False)) (kk : W p l e R s m args below meth c H locs cells slots Q (F0 m (pc + 3) ls (.ref E :: rest))) : W p l e R s m args below meth c H locs cells slots Q (F0 m pc ls st0) :=
  va_csr (va_Run.run hr) (fun r hr => by rw [hr]; exact kk)
theorem gc_Sv (hr : va_Run p l e R s m args below meth c H locs cells slots 0 0 (F0 m pc ls st0) rest (va_Sv (fun _ => True) a) (fun _ => False)) (kk : W p l e R s m args below meth c H locs cells slots Q (F0 m (pc + 3) ls rest)) : W p l e R s m args below meth c H locs cells slots Q (F0 m pc ls st0) :=
  va_csv (va_Run.run hr) (fun _ => kk)
/-- behind a call that writes: the cells in the order wn -/
theorem gc_Wi {S : Type} {post : Int32 → S → Prop} {wo wn : S → va_W} {ws wc wr : va_W} {A0 : Nat → Prop} {H0 : Heap} (hr : va_Run p l e R s m args below meth c H locs cells slots 0 0 (F0 m pc ls st0) rest (va_Qi post (gO D wo (va_A wc H.size)) (va_A wc H.size) a) (va_A wc H.size))
    (hP : va_P D vwCl ws H) (hD : va_D A0 ws) (hS : va_S A0 H0 H locs) (hA : ∀ q, H0.size ≤ q → A0 q) (isC isR isP : List Nat) (hC : isC.map (fun i => ws[i]?) = wc.map some) (hR : isR.map (fun i => ws[i]?) = wr.map some) (hn : va_nd isR = true) (hdis : ∀ i ∈ isR, i ∉ isC)
    (hp : ∀ u, isP.map (fun i => (wr ++ wo u)[i]?) = (wn u).map some) (hnp : va_nd isP = true)
    (kk : ∀ (r : Int32) (u : S) (H1 : Heap) (locs1 : List Loc), post r u → va_P D vwCl (wn u) H1 → va_D A0 (wn u) → va_S A0 H0 H1 locs1 → W p l e R s m args below meth c H1 locs1 cells slots Q (F0 m (pc + 3) ls (.int r :: rest))) : W p l e R s m args below meth c H locs cells slots Q (F0 m pc ls st0) := by
  have hF := va_free (wc := wc) hD hS hA isC hC
  refine va_calli hr hS (fun q _ h => hF q h) hF (fun r u t H1 locs1 ht hvm hw hB hz1 hk1 hS1 => ?_)
  obtain ⟨hP1, hD1⟩ := hB
  rw [ht] at hP1
  obtain ⟨hP2, hD2⟩ := va_join hP hD isC isR hC hR hn hdis hk1 hF hP1 hD1
  exact kk r u H1 locs1 hw (hP2.sub isP (g_fm (hp u))) (hD2.sub isP hnp (hp u)) hS1
theorem gc_Wv {S : Type} {post : S → Prop} {wo wn : S → va_W} {ws wc wr : va_W} {A0 : Nat → Prop} {H0 : Heap} (hr : va_Run p l e R s m args below meth c H locs cells slots 0 0 (F0 m pc ls st0) rest (va_Qv post (gO D wo (va_A wc H.size)) (va_A wc H.size) a) (va_A wc H.size))
    (hP : va_P D vwCl ws H) (hD : va_D A0 ws) (hS : va_S A0 H0 H locs) (hA : ∀ q, H0.size ≤ q → A0 q) (isC isR isP : List Nat) (hC : isC.map (fun i => ws[i]?) = wc.map some) (hR : isR.map (fun i => ws[i]?) = wr.map some) (hn : va_nd isR = true) (hdis : ∀ i ∈ isR, i ∉ isC)
    (hp : ∀ u, isP.map (fun i => (wr ++ wo u)[i]?) = (wn u).map some) (hnp : va_nd isP = true)
    (kk : ∀ (u : S) (H1 : Heap) (locs1 : List Loc), post u → va_P D vwCl (wn u) H1 → va_D A0 (wn u) → va_S A0 H0 H1 locs1 → W p l e R s m args below meth c H1 locs1 cells slots Q (F0 m (pc + 3) ls rest)) : W p l e R s m args below meth c H locs cells slots Q (F0 m pc ls st0) := by
  have hF := va_free (wc := wc) hD hS hA isC hC
  refine va_callv hr hS (fun q _ h => hF q h) hF (fun u t H1 locs1 ht hvm hw hB hz1 hk1 hS1 => ?_)
  obtain ⟨hP1, hD1⟩ := hB
  rw [ht] at hP1
  obtain ⟨hP2, hD2⟩ := va_join hP hD isC isR hC hR hn hdis hk1 hF hP1 hD1
  exact kk u H1 locs1 hw (hP2.sub isP (g_fm (hp u))) (hD2.sub isP hnp (hp u)) hS1
/-- the top of the stack, said otherwise -/
theorem g_ti {x y : Int32} (h : x = y) (k : W p l e R s m args below meth c H locs cells slots Q (F0 m pc ls (.int y :: rest))) : W p l e R s m args below meth c H locs cells slots Q (F0 m pc ls (.int x :: rest)) := by rw [h]; exact k
theorem g_tl {x y : Int64} (h : x = y) (k : W p l e R s m args below meth c H locs cells slots Q (F0 m pc ls (.long y :: rest))) : W p l e R s m args below meth c H locs cells slots Q (F0 m pc ls (.long x :: rest)) := by rw [h]; exact k
theorem g_tv {x y : Value} (h : x = y) (k : W p l e R s m args below meth c H locs cells slots Q (F0 m pc ls (y :: rest))) : W p l e R s m args below meth c H locs cells slots Q (F0 m pc ls (x :: rest)) := by rw [h]; exact k
variable {cc : ByteArray} {A : Nat → Prop} {b : Nat} {ws : va_W} {H0 : Heap}
/-! arrays, by a place that is a whole number -/
theorem g_iald (hexec : p.tables.exec = Jvm.exec) (hb : c.code = cc) (hG : gG D tys s) (hP : va_P D vwCl ws H) (q0 t0 : Nat) {cA : ClassId} {n : Nat} {f : Nat → Int32} (ha : ws[q0]? = some (b, .inl (cA, n, .inl f))) (ht : tys[t0]? = some (cA, .int)) {k : Nat} (hk : k < n) (hn : n < 2 ^ 31) (hdg : decode cc pc = .ok (.iaload, 1))
    (kk : W p l e R s m args below meth c H locs cells slots Q (F0 m (pc + 1) ls (.int (f k) :: rest))) : W p l e R s m args below meth c H locs cells slots Q (F0 m pc ls (.int (nI k) :: .ref b :: rest)) :=
  va_iald hexec hb hG.1 hP q0 t0 ha ht (vp_in_nI hk hn) hdg (by rw [nI_clamp (Nat.lt_trans hk hn)]; exact kk)
theorem g_zald (hexec : p.tables.exec = Jvm.exec) (hb : c.code = cc) (hG : gG D tys s) (hP : va_P D vwCl ws H) (q0 t0 : Nat) {cA : ClassId} {n : Nat} {f : Nat → Int32} (ha : ws[q0]? = some (b, .inl (cA, n, .inl f))) (ht : tys[t0]? = some (cA, .boolean)) {k : Nat} (hk : k < n) (hn : n < 2 ^ 31) (hdg : decode cc pc = .ok (.baload, 1))
    (kk : W p l e R s m args below meth c H locs cells slots Q (F0 m (pc + 1) ls (.int (f k) :: rest))) : W p l e R s m args below meth c H locs cells slots Q (F0 m pc ls (.int (nI k) :: .ref b :: rest)) :=
  va_zald hexec hb hG.1 hP q0 t0 ha ht (vp_in_nI hk hn) hdg (by rw [nI_clamp (Nat.lt_trans hk hn)]; exact kk)
theorem g_lald (hexec : p.tables.exec = Jvm.exec) (hb : c.code = cc) (hG : gG D tys s) (hP : va_P D vwCl ws H) (q0 t0 : Nat) {cA : ClassId} {n : Nat} {f : Nat → Int64} (ha : ws[q0]? = some (b, .inl (cA, n, .inr (.inl f)))) (ht : tys[t0]? = some (cA, .long)) {k : Nat} (hk : k < n) (hn : n < 2 ^ 31) (hdg : decode cc pc = .ok (.laload, 1))
    (kk : W p l e R s m args below meth c H locs cells slots Q (F0 m (pc + 1) ls (.long (f k) :: rest))) : W p l e R s m args below meth c H locs cells slots Q (F0 m pc ls (.int (nI k) :: .ref b :: rest)) :=
  va_lald hexec hb hG.1 hP q0 t0 ha ht (vp_in_nI hk hn) hdg (by rw [nI_clamp (Nat.lt_trans hk hn)]; exact kk)
theorem g_aldq (hexec : p.tables.exec = Jvm.exec) (hb : c.code = cc) (hG : gG D tys s) (hP : va_P D vwCl ws H) (q0 t0 : Nat) {cA : ClassId} {C : String} {n : Nat} {f : Nat → Option Nat} (ha : ws[q0]? = some (b, .inl (cA, n, .inr (.inr (.inr (.inr f)))))) (ht : tys[t0]? = some (cA, .object C)) {k x : Nat} (hk : k < n) (hn : n < 2 ^ 31) (hx : f k = some x) (hdg : decode cc pc = .ok (.aaload, 1))
    (kk : W p l e R s m args below meth c H locs cells slots Q (F0 m (pc + 1) ls (.ref x :: rest))) : W p l e R s m args below meth c H locs cells slots Q (F0 m pc ls (.int (nI k) :: .ref b :: rest)) :=
  va_aldq hexec hb hG.1 hP q0 t0 ha ht (vp_in_nI hk hn) hdg (by rw [nI_clamp (Nat.lt_trans hk hn), hx]; exact kk)
theorem g_iast (hexec : p.tables.exec = Jvm.exec) (hb : c.code = cc) (hG : gG D tys s) (hP : va_P D vwCl ws H) (hD : va_D A ws) (hS : va_S A H0 H locs) (q0 t0 : Nat) {cA : ClassId} {n : Nat} {f : Nat → Int32} (ha : ws[q0]? = some (b, .inl (cA, n, .inl f))) (ht : tys[t0]? = some (cA, .int)) {k : Nat} {x : Int32} (hk : k < n) (hn : n < 2 ^ 31) (hdg : decode cc pc = .ok (.iastore, 1))
    (kk : ∀ (H1 : Heap) (locs1 : List Loc), va_P D vwCl (ws.set q0 (b, .inl (cA, n, .inl (upd f k x)))) H1 → va_D A (ws.set q0 (b, .inl (cA, n, .inl (upd f k x)))) → va_S A H0 H1 locs1 → W p l e R s m args below meth c H1 locs1 cells slots Q (F0 m (pc + 1) ls rest)) : W p l e R s m args below meth c H locs cells slots Q (F0 m pc ls (.int x :: .int (nI k) :: .ref b :: rest)) :=
  va_iast hexec hb hG.1 hP hD hS q0 t0 ha ht (vp_in_nI hk hn) hdg (by rw [nI_clamp (Nat.lt_trans hk hn)]; exact kk)
theorem g_zast (hexec : p.tables.exec = Jvm.exec) (hb : c.code = cc) (hG : gG D tys s) (hP : va_P D vwCl ws H) (hD : va_D A ws) (hS : va_S A H0 H locs) (q0 t0 : Nat) {cA : ClassId} {n : Nat} {f : Nat → Int32} (ha : ws[q0]? = some (b, .inl (cA, n, .inl f))) (ht : tys[t0]? = some (cA, .boolean)) {k : Nat} {x : Int32} (hk : k < n) (hn : n < 2 ^ 31) (hx : vp_nar .boolean x = x) (hdg : decode cc pc = .ok (.bastore, 1))
    (kk : ∀ (H1 : Heap) (locs1 : List Loc), va_P D vwCl (ws.set q0 (b, .inl (cA, n, .inl (upd f k x)))) H1 → va_D A (ws.set q0 (b, .inl (cA, n, .inl (upd f k x)))) → va_S A H0 H1 locs1 → W p l e R s m args below meth c H1 locs1 cells slots Q (F0 m (pc + 1) ls rest)) : W p l e R s m args below meth c H locs cells slots Q (F0 m pc ls (.int x :: .int (nI k) :: .ref b :: rest)) :=
  va_zast hexec hb hG.1 hP hD hS q0 t0 ha ht (vp_in_nI hk hn) hdg (by rw [nI_clamp (Nat.lt_trans hk hn), hx]; exact kk)
theorem g_last (hexec : p.tables.exec = Jvm.exec) (hb : c.code = cc) (hG : gG D tys s) (hP : va_P D vwCl ws H) (hD : va_D A ws) (hS : va_S A H0 H locs) (q0 t0 : Nat) {cA : ClassId} {n : Nat} {f : Nat → Int64} (ha : ws[q0]? = some (b, .inl (cA, n, .inr (.inl f)))) (ht : tys[t0]? = some (cA, .long)) {k : Nat} {x : Int64} (hk : k < n) (hn : n < 2 ^ 31) (hdg : decode cc pc = .ok (.lastore, 1))
    (kk : ∀ (H1 : Heap) (locs1 : List Loc), va_P D vwCl (ws.set q0 (b, .inl (cA, n, .inr (.inl (vp_updL f k x))))) H1 → va_D A (ws.set q0 (b, .inl (cA, n, .inr (.inl (vp_updL f k x))))) → va_S A H0 H1 locs1 → W p l e R s m args below meth c H1 locs1 cells slots Q (F0 m (pc + 1) ls rest)) : W p l e R s m args below meth c H locs cells slots Q (F0 m pc ls (.long x :: .int (nI k) :: .ref b :: rest)) :=
  va_last hexec hb hG.1 hP hD hS q0 t0 ha ht (vp_in_nI hk hn) hdg (by rw [nI_clamp (Nat.lt_trans hk hn)]; exact kk)
end GC
/-! the cells -/
abbrev gT (cy : Nat → ClassId) : List (ClassId × FieldType) := [(cy 0, .int), (cy 1, .long), (cy 2, .boolean), (cy 3, .object "DirtyTiles$Client")]
abbrev gT3 (cy : Nat → ClassId) : List (ClassId × FieldType) := [(cy 0, .int), (cy 1, .long), (cy 2, .boolean)]
abbrev eScr (t : Nat) : va_E := .inr (2, [.ref t])
abbrev eCch (t : Nat) (n : Int32) : va_E := .inr (0, [.ref t, .int n])
abbrev eCli (j : Int32) (os oc sc dt : Nat) (dc : Int32) (mt mc : Nat) (k : Int32) : va_E := .inr (1, [.int j, .ref os, .ref oc, .ref sc, .ref dt, .int dc, .ref mt, .ref mc, .int k])
abbrev eTop (sc sb cl tw : Nat) (u : Int32) : va_E := .inr (3, [.ref sc, .ref sb, .ref cl, .ref tw, .int u])
abbrev eMod (th : Int32) (q : Nat → Nat) (un : Int32) : va_E := .inr (4, [.int th, .ref (q 1), .ref (q 2), .ref (q 3), .ref (q 4), .ref (q 5), .ref (q 6), .ref (q 7), .ref (q 8), .ref (q 9), .ref (q 10), .ref (q 11), .ref (q 12), .ref (q 13), .ref (q 14), .int un, .ref (q 16)])
abbrev eI (cy : Nat → ClassId) (n : Nat) (f : Nat → Int32) : va_E := .inl (cy 0, n, .inl f)
abbrev eJ (cy : Nat → ClassId) (n : Nat) (f : Nat → Int64) : va_E := .inl (cy 1, n, .inr (.inl f))
abbrev eZ (cy : Nat → ClassId) (n : Nat) (f : Nat → Int32) : va_E := .inl (cy 2, n, .inl f)
abbrev eQ (cy : Nat → ClassId) (n : Nat) (f : Nat → Option Nat) : va_E := .inl (cy 3, n, .inr (.inr (.inr (.inr f))))
end
section
/-! the mathematical words: a tile is sixteen cells of four bits in one long -/
def cel (x : Int64) (k : Nat) : Nat := x.toBitVec.toNat / 16 ^ k % 16
theorem cel_lt (x : Int64) (k : Nat) : cel x k < 16 := Nat.mod_lt _ (by decide)
theorem p16 (k : Nat) : 16 ^ k = 2 ^ (4 * k) := by rw [show (16 : Nat) = 2 ^ 4 from rfl, ← Nat.pow_mul]
theorem cel_bit (x : Int64) (k i : Nat) : (cel x k).testBit i = (decide (i < 4) && x.toBitVec.toNat.testBit (4 * k + i)) := by
  unfold cel
  rw [p16, show (16 : Nat) = 2 ^ 4 from rfl, Nat.testBit_mod_two_pow, Nat.testBit_div_two_pow, Nat.add_comm]
theorem cel_ext {x y : Int64} (h : ∀ k, k < 16 → cel x k = cel y k) : x = y := by
  apply wb_inj
  apply BitVec.eq_of_toNat_eq
  apply Nat.eq_of_testBit_eq
  intro i
  by_cases hi : i < 64
  · have h1 := congrArg (fun n => Nat.testBit n (i % 4)) (h (i / 4) (by omega))
    simp only [cel_bit] at h1
    have h2 : i % 4 < 4 := Nat.mod_lt _ (by decide)
    rw [Nat.div_add_mod] at h1
    simpa [h2] using h1
  · have e1 : x.toBitVec.toNat.testBit i = false := Nat.testBit_lt_two_pow (Nat.lt_of_lt_of_le x.toBitVec.isLt (Nat.pow_le_pow_right (by decide) (by omega)))
    have e2 : y.toBitVec.toNat.testBit i = false := Nat.testBit_lt_two_pow (Nat.lt_of_lt_of_le y.toBitVec.isLt (Nat.pow_le_pow_right (by decide) (by omega)))
    rw [e1, e2]
theorem cel_0 (k : Nat) : cel 0 k = 0 := by
  unfold cel
  have : (0 : Int64).toBitVec.toNat = 0 := rfl
  rw [this, Nat.zero_div]
theorem cel_at {x : Int64} {k : Nat} (hk : k < 16) : ((x.toUInt64 >>> ((nI (4 * k)).toInt64.toUInt64 &&& Int64.toUInt64 63)).toInt64 &&& 15).toInt32 = nI (cel x k) := by
  obtain ⟨n, hn, rfl⟩ := wb_of x
  rw [wb_shr hn (by omega), show (15 : Int64) = lN (2 ^ 4 - 1) from rfl, wb_mask (Nat.lt_of_le_of_lt (Nat.div_le_self _ _) hn) (by decide), lN_i]
  unfold cel
  rw [wb_tn hn, p16]
/-- one cell of a tile painted, as the class writes it -/
def gput (x : Int64) (k v : Nat) : Int64 := (x &&& (((15 : Int64) <<< ((nI (4 * k)).toInt64 &&& 63)) ^^^ (-1))) ||| ((nI v).toInt64 <<< ((nI (4 * k)).toInt64 &&& 63))
theorem cel_put {x : Int64} {k v j : Nat} (hk : k < 16) (hv : v < 16) (hj : j < 16) : cel (gput x k v) j = if j = k then v else cel x j := by
  have e15 : (15 : Int64) <<< ((nI (4 * k)).toInt64 &&& 63) = lN (15 * 2 ^ (4 * k)) := wb_shl 15 (by omega)
  have ev : (nI v).toInt64 <<< ((nI (4 * k)).toInt64 &&& 63) = lN (v * 2 ^ (4 * k)) := by rw [nI_l (by omega)]; exact wb_shl v (by omega)
  have hp : 2 ^ (4 * k) * 16 ≤ 2 ^ 64 := by
    rw [show (16 : Nat) = 2 ^ 4 from rfl, ← Nat.pow_add]
    exact Nat.pow_le_pow_right (by decide) (by omega)
  have h15 : 15 * 2 ^ (4 * k) < 2 ^ 64 := by omega
  have hvb : v * 2 ^ (4 * k) < 2 ^ 64 := Nat.lt_of_le_of_lt (Nat.mul_le_mul_right _ (show v ≤ 15 by omega)) h15
  apply Nat.eq_of_testBit_eq
  intro i
  rw [cel_bit]
  by_cases hi : i < 4
  · have hb : (gput x k v).toBitVec.toNat.testBit (4 * j + i) = ((x.toBitVec.toNat.testBit (4 * j + i) && !((15 * 2 ^ (4 * k)).testBit (4 * j + i))) || (v * 2 ^ (4 * k)).testBit (4 * j + i)) := by
      have hlt : 4 * j + i < 64 := by omega
      unfold gput
      rw [e15, ev]
      have : ((x &&& (lN (15 * 2 ^ (4 * k)) ^^^ (-1))) ||| lN (v * 2 ^ (4 * k))).toBitVec = (x.toBitVec &&& (BitVec.ofNat 64 (15 * 2 ^ (4 * k)) ^^^ BitVec.allOnes 64)) ||| BitVec.ofNat 64 (v * 2 ^ (4 * k)) := by
        rw [Int64.toBitVec_or, Int64.toBitVec_and, Int64.toBitVec_xor, wb_tb, wb_tb]; rfl
      rw [this, BitVec.testBit_toNat, BitVec.getLsbD_or, BitVec.getLsbD_and, BitVec.getLsbD_xor, BitVec.getLsbD_allOnes, ← BitVec.testBit_toNat, ← BitVec.testBit_toNat, ← BitVec.testBit_toNat, BitVec.toNat_ofNat, BitVec.toNat_ofNat, Nat.mod_eq_of_lt h15, Nat.mod_eq_of_lt hvb]
      simp [hlt]
    rw [hb, Nat.testBit_mul_two_pow, Nat.testBit_mul_two_pow]
    by_cases hjk : j = k
    · subst hjk
      have e1 : 4 * j + i - 4 * j = i := by omega
      have e3 : Nat.testBit 15 i = true := by
        rcases (show i = 0 ∨ i = 1 ∨ i = 2 ∨ i = 3 by omega) with rfl | rfl | rfl | rfl <;> rfl
      rw [e1, e3]
      simp [hi]
    · rw [if_neg hjk, cel_bit]
      by_cases hlt : j < k
      · have e1 : ¬ 4 * k ≤ 4 * j + i := by omega
        simp [hi, e1]
      · have e1 : 4 * k ≤ 4 * j + i := by omega
        have e2 : 4 ≤ 4 * j + i - 4 * k := by omega
        have f1 : Nat.testBit 15 (4 * j + i - 4 * k) = false := Nat.testBit_lt_two_pow (Nat.lt_of_lt_of_le (by decide : 15 < 2 ^ 4) (Nat.pow_le_pow_right (by decide) e2))
        have f2 : Nat.testBit v (4 * j + i - 4 * k) = false := Nat.testBit_lt_two_pow (Nat.lt_of_lt_of_le (by omega : v < 2 ^ 4) (Nat.pow_le_pow_right (by decide) e2))
        simp [hi, e1, f1, f2]
  · have e2 : (if j = k then v else cel x j).testBit i = false := by
      apply Nat.testBit_lt_two_pow
      have h1 : (if j = k then v else cel x j) < 2 ^ 4 := by
        split
        · exact hv
        · exact cel_lt x j
      exact Nat.lt_of_lt_of_le h1 (Nat.pow_le_pow_right (by decide) (by omega))
    rw [e2]
    simp [hi]
/-- the tile of a cell, and its place there -/
abbrev tl (c r : Nat) : Nat := 4 * (r / 4) + c / 4
abbrev plc (c r : Nat) : Nat := 4 * (r % 4) + c % 4
theorem tl_lt {c r : Nat} (hc : c < 16) (hr : r < 12) : tl c r < 12 := by show 4 * (r / 4) + c / 4 < 12; omega
theorem plc_lt (c r : Nat) : plc c r < 16 := by show 4 * (r % 4) + c % 4 < 16; omega
theorem g_cmp0 {x y : Int64} : lg_cmp x y = 0 ↔ x = y := by
  unfold lg_cmp
  constructor
  · intro h
    by_cases h1 : x > y
    · rw [if_pos h1] at h; exact absurd h (by decide)
    · rw [if_neg h1] at h
      by_cases h2 : x = y
      · exact h2
      · rw [if_neg h2] at h; exact absurd h (by decide)
  · intro h
    subst h
    rw [if_neg (by rw [gt_iff_lt, Int64.lt_iff_toInt_lt]; omega), if_pos rfl]
end
section
/-! the class: tests of numbers, screens -/
theorem g_subI {n : Nat} {c : Int32} (hn : n < 2 ^ 30) (h0 : 0 ≤ c.toInt) : (nI n - c).toInt = (n : Int) - c.toInt := by
  have h1 := fb_rng c
  have h2 : (nI n).toInt = (n : Int) := nI_toInt (by omega)
  rw [fb_subI (by rw [h2]; omega) (by rw [h2]; omega), h2]
theorem g_min {a b : Nat} (ha : a < 2 ^ 31) (hb : b < 2 ^ 31) : (if nI b < nI a then nI b else nI a) = nI (min a b) := by
  by_cases h : b < a
  · rw [if_pos ((nI_ltI hb ha).mpr h), Nat.min_eq_right (by omega)]
  · rw [if_neg (fun z => h ((nI_ltI hb ha).mp z)), Nat.min_eq_left (by omega)]
theorem g_dec {j : Nat} (h : 0 < j) : nI j + Int32.ofInt (-1) = nI (j - 1) := by
  obtain ⟨k, rfl⟩ : ∃ k, j = k + 1 := ⟨j - 1, by omega⟩
  exact pk_m1 k
theorem g_shl1 : ∀ c, c < 16 → nI 1 <<< (nI c &&& 31) = nI (2 ^ c) := by decide +kernel
theorem g_covL {b g : Nat → Int64} {i : Nat} {x : Int64} (hb : ∀ k, k < i → b k = g k) (hx : x = g i) : ∀ k, k < i + 1 → vp_updL b i x k = g k := by
  intro k hk
  unfold vp_updL
  by_cases e : k = i
  · rw [if_pos e, hx, e]
  · rw [if_neg e]; exact hb k (by omega)
theorem g_covI {b g : Nat → Int32} {i : Nat} {x : Int32} (hb : ∀ k, k < i → b k = g k) (hx : x = g i) : ∀ k, k < i + 1 → upd b i x k = g k := by
  intro k hk
  by_cases e : k = i
  · rw [e, pk_us, hx]
  · rw [pk_un e]; exact hb k (by omega)
abbrev pCell (c r : Int32) : Prop := pIn c 0 15 ∧ pIn r 0 11
abbrev pBox (c r w h : Int32) : Prop := pCell c r ∧ pIn w 1 (16 - c.toInt) ∧ pIn h 1 (12 - r.toInt)
set_option maxHeartbeats 4000000 in
set_option maxRecDepth 100000 in
theorem c_X3_isIndex (l : Launch) (D : va_G) (cy : Nat → ClassId) (v n : Int32)  : Met l yX3_isIndex wsX3_isIndex ({ frames := 0, cells := 0, slots := 0, locals := 0 } : Room) (va_Pc [.int v, .int n] (gR D (gT cy) [])) (vp_Si (fun r9 => r9 = gb (pIn v 0 (n.toInt - 1)))) 0 0 (fun _ => False) := by
  refine gM_i (cc := cX3_isIndex) (maxL := 2) (ty := .boolean) (by decide) rfl (Nat.le_of_ble_eq_true rfl) (fun v hv => by rw [hv]; first | rfl | exact gb_nar _) ?_
  intro pp ee ss mm bw mt cd QQ ls hfx hP hG hret hl
  obtain ⟨hx, hb, hml, hown, hts, hlocks⟩ := hfx
  have hown : ss.vm.findClass RX3 = some mm.cls := hown
  have hl : lv_has ls 2 [(0, .int v), (1, .int n)] := hl
  have z0 : (0 : Int32).toInt = 0 := rfl
  refine lv_iload_n hx hb dX3_isIndex_0 rfl (lv_at hl 0 rfl) ?_
  refine lv_if_lt (tgt := 13) hx hb dX3_isIndex_1 (by decide) (fun c_1 => ?_) (fun c_1 => ?_)
  · skip
    refine lv_iconst (v := nI 0) hx hb dX3_isIndex_13 (by decide) ?_
    exact hret _ _ _ dX3_isIndex_14 (by (try simp only [fa_lt, fa_le] at c_1); (try simp only [fa_lt, fa_le] at c_6); first | exact (gb_t (by simp only [pIn]; omega)).symm | exact (gb_f (by simp only [pIn]; omega)).symm)
  · skip
    refine lv_iload_n hx hb dX3_isIndex_4 rfl (lv_at hl 0 rfl) ?_
    refine lv_iload_n hx hb dX3_isIndex_5 rfl (lv_at hl 1 rfl) ?_
    refine lv_icmp_ge (tgt := 13) hx hb dX3_isIndex_6 (by decide) (fun c_6 => ?_) (fun c_6 => ?_)
    · skip
      refine lv_iconst (v := nI 0) hx hb dX3_isIndex_13 (by decide) ?_
      exact hret _ _ _ dX3_isIndex_14 (by (try simp only [fa_lt, fa_le] at c_1); (try simp only [fa_lt, fa_le] at c_6); first | exact (gb_t (by simp only [pIn]; omega)).symm | exact (gb_f (by simp only [pIn]; omega)).symm)
    · skip
      refine lv_iconst (v := nI 1) hx hb dX3_isIndex_9 (by decide) ?_
      refine lv_goto (tgt := 14) hx hb dX3_isIndex_10 (by decide) ?_
      exact hret _ _ _ dX3_isIndex_14 (by (try simp only [fa_lt, fa_le] at c_1); (try simp only [fa_lt, fa_le] at c_6); first | exact (gb_t (by simp only [pIn]; omega)).symm | exact (gb_f (by simp only [pIn]; omega)).symm)
set_option maxHeartbeats 4000000 in
set_option maxRecDepth 100000 in
theorem c_X3_isBetween (l : Launch) (D : va_G) (cy : Nat → ClassId) (v a b : Int32)  : Met l yX3_isBetween wsX3_isBetween ({ frames := 0, cells := 0, slots := 0, locals := 0 } : Room) (va_Pc [.int v, .int a, .int b] (gR D (gT cy) [])) (vp_Si (fun r9 => r9 = gb (pIn v a.toInt b.toInt))) 0 0 (fun _ => False) := by
  refine gM_i (cc := cX3_isBetween) (maxL := 3) (ty := .boolean) (by decide) rfl (Nat.le_of_ble_eq_true rfl) (fun v hv => by rw [hv]; first | rfl | exact gb_nar _) ?_
  intro pp ee ss mm bw mt cd QQ ls hfx hP hG hret hl
  obtain ⟨hx, hb, hml, hown, hts, hlocks⟩ := hfx
  have hown : ss.vm.findClass RX3 = some mm.cls := hown
  have hl : lv_has ls 3 [(0, .int v), (1, .int a), (2, .int b)] := hl
  refine lv_iload_n hx hb dX3_isBetween_0 rfl (lv_at hl 0 rfl) ?_
  refine lv_iload_n hx hb dX3_isBetween_1 rfl (lv_at hl 1 rfl) ?_
  refine lv_icmp_lt (tgt := 14) hx hb dX3_isBetween_2 (by decide) (fun c_2 => ?_) (fun c_2 => ?_)
  · skip
    refine lv_iconst (v := nI 0) hx hb dX3_isBetween_14 (by decide) ?_
    exact hret _ _ _ dX3_isBetween_15 (by (try simp only [fa_lt, fa_le] at c_2); (try simp only [fa_lt, fa_le] at c_7); first | exact (gb_t (by simp only [pIn]; omega)).symm | exact (gb_f (by simp only [pIn]; omega)).symm)
  · skip
    refine lv_iload_n hx hb dX3_isBetween_5 rfl (lv_at hl 0 rfl) ?_
    refine lv_iload_n hx hb dX3_isBetween_6 rfl (lv_at hl 2 rfl) ?_
    refine lv_icmp_gt (tgt := 14) hx hb dX3_isBetween_7 (by decide) (fun c_7 => ?_) (fun c_7 => ?_)
    · skip
      refine lv_iconst (v := nI 0) hx hb dX3_isBetween_14 (by decide) ?_
      exact hret _ _ _ dX3_isBetween_15 (by (try simp only [fa_lt, fa_le] at c_2); (try simp only [fa_lt, fa_le] at c_7); first | exact (gb_t (by simp only [pIn]; omega)).symm | exact (gb_f (by simp only [pIn]; omega)).symm)
    · skip
      refine lv_iconst (v := nI 1) hx hb dX3_isBetween_10 (by decide) ?_
      refine lv_goto (tgt := 15) hx hb dX3_isBetween_11 (by decide) ?_
      exact hret _ _ _ dX3_isBetween_15 (by (try simp only [fa_lt, fa_le] at c_2); (try simp only [fa_lt, fa_le] at c_7); first | exact (gb_t (by simp only [pIn]; omega)).symm | exact (gb_f (by simp only [pIn]; omega)).symm)
set_option maxHeartbeats 4000000 in
set_option maxRecDepth 100000 in
theorem c_X3_isCell (l : Launch) (D : va_G) (cy : Nat → ClassId) (c r : Int32)  : Met l yX3_isCell wsX3_isCell ({ frames := 1, cells := 0, slots := 0, locals := 21 } : Room) (va_Pc [.int c, .int r] (gR D (gT cy) [])) (vp_Si (fun r9 => r9 = gb (pCell c r))) 0 0 (fun _ => False) := by
  refine gM_i (cc := cX3_isCell) (maxL := 2) (ty := .boolean) (by decide) rfl (Nat.le_of_ble_eq_true rfl) (fun v hv => by rw [hv]; first | rfl | exact gb_nar _) ?_
  intro pp ee ss mm bw mt cd QQ ls hfx hP hG hret hl
  obtain ⟨hx, hb, hml, hown, hts, hlocks⟩ := hfx
  have hown : ss.vm.findClass RX3 = some mm.cls := hown
  have hl : lv_has ls 2 [(0, .int c), (1, .int r)] := hl
  refine lv_iload_n hx hb dX3_isCell_0 rfl (lv_at hl 0 rfl) ?_
  refine lv_bipush (v := nI 16) hx hb dX3_isCell_1 (by decide) ?_
  refine gc_Si (va_runS (As := [.int c, .int (nI 16)]) (rest := []) ⟨hx, hb, hml, hown, hts⟩ (c_X3_isIndex l D cy c (nI 16)) (va_cwS 2 hts gX3_isCell_X3_isIndex rfl rfl rfl (by decide +kernel) ⟨Nat.le_of_ble_eq_true rfl, Nat.le_of_ble_eq_true rfl⟩) (gpSR hG (hP.sub [] rfl)) rfl rfl hl.1 rfl (lv_room (Nat.le_of_ble_eq_true rfl)) dX3_isCell_3 ⟨Nat.zero_le _, Nat.zero_le _⟩) ?_
  refine g_ti (y := gb (pIn c 0 15)) (congrArg (fun z => gb (pIn c 0 z)) (by decide)) ?_
  refine lv_if_eq (tgt := 22) hx hb dX3_isCell_6 (by decide) (fun c_6 => ?_) (fun c_6 => ?_)
  · skip
    have c_6 : ¬ (pIn c 0 15) := gb_eq0.mp c_6
    refine lv_iconst (v := nI 0) hx hb dX3_isCell_22 (by decide) ?_
    exact hret _ _ _ dX3_isCell_23 (by first | exact (gb_t ⟨c_6, c_15⟩).symm | exact (gb_f (fun h => c_6 h.1)).symm | exact (gb_f (fun h => c_15 h.2)).symm)
  · skip
    have c_6 : pIn c 0 15 := gb_ne0.mp c_6
    refine lv_iload_n hx hb dX3_isCell_9 rfl (lv_at hl 1 rfl) ?_
    refine lv_bipush (v := nI 12) hx hb dX3_isCell_10 (by decide) ?_
    refine gc_Si (va_runS (As := [.int r, .int (nI 12)]) (rest := []) ⟨hx, hb, hml, hown, hts⟩ (c_X3_isIndex l D cy r (nI 12)) (va_cwS 2 hts gX3_isCell_X3_isIndex rfl rfl rfl (by decide +kernel) ⟨Nat.le_of_ble_eq_true rfl, Nat.le_of_ble_eq_true rfl⟩) (gpSR hG (hP.sub [] rfl)) rfl rfl hl.1 rfl (lv_room (Nat.le_of_ble_eq_true rfl)) dX3_isCell_12 ⟨Nat.zero_le _, Nat.zero_le _⟩) ?_
    refine g_ti (y := gb (pIn r 0 11)) (congrArg (fun z => gb (pIn r 0 z)) (by decide)) ?_
    refine lv_if_eq (tgt := 22) hx hb dX3_isCell_15 (by decide) (fun c_15 => ?_) (fun c_15 => ?_)
    · skip
      have c_15 : ¬ (pIn r 0 11) := gb_eq0.mp c_15
      refine lv_iconst (v := nI 0) hx hb dX3_isCell_22 (by decide) ?_
      exact hret _ _ _ dX3_isCell_23 (by first | exact (gb_t ⟨c_6, c_15⟩).symm | exact (gb_f (fun h => c_6 h.1)).symm | exact (gb_f (fun h => c_15 h.2)).symm)
    · skip
      have c_15 : pIn r 0 11 := gb_ne0.mp c_15
      refine lv_iconst (v := nI 1) hx hb dX3_isCell_18 (by decide) ?_
      refine lv_goto (tgt := 23) hx hb dX3_isCell_19 (by decide) ?_
      exact hret _ _ _ dX3_isCell_23 (by first | exact (gb_t ⟨c_6, c_15⟩).symm | exact (gb_f (fun h => c_6 h.1)).symm | exact (gb_f (fun h => c_15 h.2)).symm)
set_option maxHeartbeats 4000000 in
set_option maxRecDepth 100000 in
theorem c_X3_isBox (l : Launch) (D : va_G) (cy : Nat → ClassId) (c r w h : Int32)  : Met l yX3_isBox wsX3_isBox ({ frames := 2, cells := 0, slots := 0, locals := 42 } : Room) (va_Pc [.int c, .int r, .int w, .int h] (gR D (gT cy) [])) (vp_Si (fun r9 => r9 = gb (pBox c r w h))) 0 0 (fun _ => False) := by
  refine gM_i (cc := cX3_isBox) (maxL := 4) (ty := .boolean) (by decide) rfl (Nat.le_of_ble_eq_true rfl) (fun v hv => by rw [hv]; first | rfl | exact gb_nar _) ?_
  intro pp ee ss mm bw mt cd QQ ls hfx hP hG hret hl
  obtain ⟨hx, hb, hml, hown, hts, hlocks⟩ := hfx
  have hown : ss.vm.findClass RX3 = some mm.cls := hown
  have hl : lv_has ls 4 [(0, .int c), (1, .int r), (2, .int w), (3, .int h)] := hl
  refine lv_iload_n hx hb dX3_isBox_0 rfl (lv_at hl 0 rfl) ?_
  refine lv_iload_n hx hb dX3_isBox_1 rfl (lv_at hl 1 rfl) ?_
  refine gc_Si (va_runS (As := [.int c, .int r]) (rest := []) ⟨hx, hb, hml, hown, hts⟩ (c_X3_isCell l D cy c r) (va_cwS 2 hts gX3_isBox_X3_isCell rfl rfl rfl (by decide +kernel) ⟨Nat.le_of_ble_eq_true rfl, Nat.le_of_ble_eq_true rfl⟩) (gpSR hG (hP.sub [] rfl)) rfl rfl hl.1 rfl (lv_room (Nat.le_of_ble_eq_true rfl)) dX3_isBox_2 ⟨Nat.zero_le _, Nat.zero_le _⟩) ?_
  refine lv_if_eq (tgt := 36) hx hb dX3_isBox_5 (by decide) (fun c_5 => ?_) (fun c_5 => ?_)
  · skip
    have c_5 : ¬ (pCell c r) := gb_eq0.mp c_5
    refine lv_iconst (v := nI 0) hx hb dX3_isBox_36 (by decide) ?_
    exact hret _ _ _ dX3_isBox_37 (by first | exact (gb_t ⟨c_5, c_17, c_29⟩).symm | exact (gb_f (fun h => c_5 h.1)).symm | exact (gb_f (fun h => c_17 h.2.1)).symm | exact (gb_f (fun h => c_29 h.2.2)).symm)
  · skip
    have c_5 : pCell c r := gb_ne0.mp c_5
    refine lv_iload_n hx hb dX3_isBox_8 rfl (lv_at hl 2 rfl) ?_
    refine lv_iconst (v := nI 1) hx hb dX3_isBox_9 (by decide) ?_
    refine lv_bipush (v := nI 16) hx hb dX3_isBox_10 (by decide) ?_
    refine lv_iload_n hx hb dX3_isBox_12 rfl (lv_at hl 0 rfl) ?_
    refine lv_isub hx hb dX3_isBox_13 ?_
    refine gc_Si (va_runS (As := [.int w, .int (nI 1), .int ((nI 16) - c)]) (rest := []) ⟨hx, hb, hml, hown, hts⟩ (c_X3_isBetween l D cy w (nI 1) (nI 16 - c)) (va_cwS 3 hts gX3_isBox_X3_isBetween rfl rfl rfl (by decide +kernel) ⟨Nat.le_of_ble_eq_true rfl, Nat.le_of_ble_eq_true rfl⟩) (gpSR hG (hP.sub [] rfl)) rfl rfl hl.1 rfl (lv_room (Nat.le_of_ble_eq_true rfl)) dX3_isBox_14 ⟨Nat.zero_le _, Nat.zero_le _⟩) ?_
    refine g_ti (y := gb (pIn w 1 (16 - c.toInt))) (by rw [g_subI (by decide) c_5.1.1]; rfl) ?_
    refine lv_if_eq (tgt := 36) hx hb dX3_isBox_17 (by decide) (fun c_17 => ?_) (fun c_17 => ?_)
    · skip
      have c_17 : ¬ (pIn w 1 (16 - c.toInt)) := gb_eq0.mp c_17
      refine lv_iconst (v := nI 0) hx hb dX3_isBox_36 (by decide) ?_
      exact hret _ _ _ dX3_isBox_37 (by first | exact (gb_t ⟨c_5, c_17, c_29⟩).symm | exact (gb_f (fun h => c_5 h.1)).symm | exact (gb_f (fun h => c_17 h.2.1)).symm | exact (gb_f (fun h => c_29 h.2.2)).symm)
    · skip
      have c_17 : pIn w 1 (16 - c.toInt) := gb_ne0.mp c_17
      refine lv_iload_n hx hb dX3_isBox_20 rfl (lv_at hl 3 rfl) ?_
      refine lv_iconst (v := nI 1) hx hb dX3_isBox_21 (by decide) ?_
      refine lv_bipush (v := nI 12) hx hb dX3_isBox_22 (by decide) ?_
      refine lv_iload_n hx hb dX3_isBox_24 rfl (lv_at hl 1 rfl) ?_
      refine lv_isub hx hb dX3_isBox_25 ?_
      refine gc_Si (va_runS (As := [.int h, .int (nI 1), .int ((nI 12) - r)]) (rest := []) ⟨hx, hb, hml, hown, hts⟩ (c_X3_isBetween l D cy h (nI 1) (nI 12 - r)) (va_cwS 3 hts gX3_isBox_X3_isBetween rfl rfl rfl (by decide +kernel) ⟨Nat.le_of_ble_eq_true rfl, Nat.le_of_ble_eq_true rfl⟩) (gpSR hG (hP.sub [] rfl)) rfl rfl hl.1 rfl (lv_room (Nat.le_of_ble_eq_true rfl)) dX3_isBox_26 ⟨Nat.zero_le _, Nat.zero_le _⟩) ?_
      refine g_ti (y := gb (pIn h 1 (12 - r.toInt))) (by rw [g_subI (by decide) c_5.2.1]; rfl) ?_
      refine lv_if_eq (tgt := 36) hx hb dX3_isBox_29 (by decide) (fun c_29 => ?_) (fun c_29 => ?_)
      · skip
        have c_29 : ¬ (pIn h 1 (12 - r.toInt)) := gb_eq0.mp c_29
        refine lv_iconst (v := nI 0) hx hb dX3_isBox_36 (by decide) ?_
        exact hret _ _ _ dX3_isBox_37 (by first | exact (gb_t ⟨c_5, c_17, c_29⟩).symm | exact (gb_f (fun h => c_5 h.1)).symm | exact (gb_f (fun h => c_17 h.2.1)).symm | exact (gb_f (fun h => c_29 h.2.2)).symm)
      · skip
        have c_29 : pIn h 1 (12 - r.toInt) := gb_ne0.mp c_29
        refine lv_iconst (v := nI 1) hx hb dX3_isBox_32 (by decide) ?_
        refine lv_goto (tgt := 37) hx hb dX3_isBox_33 (by decide) ?_
        exact hret _ _ _ dX3_isBox_37 (by first | exact (gb_t ⟨c_5, c_17, c_29⟩).symm | exact (gb_f (fun h => c_5 h.1)).symm | exact (gb_f (fun h => c_17 h.2.1)).symm | exact (gb_f (fun h => c_29 h.2.2)).symm)
set_option maxHeartbeats 4000000 in
set_option maxRecDepth 100000 in
theorem c_X3_cellAt (l : Launch) (D : va_G) (cy : Nat → ClassId) (x : Int64) (k : Nat) (hk : k < 16) : Met l yX3_cellAt wsX3_cellAt ({ frames := 0, cells := 0, slots := 0, locals := 0 } : Room) (va_Pc [.long x, .int (nI k)] (gR D (gT cy) [])) (vp_Si (fun r9 => r9 = nI (cel x k))) 0 0 (fun _ => False) := by
  refine gM_i (cc := cX3_cellAt) (maxL := 3) (ty := .int) (by decide) rfl (Nat.le_of_ble_eq_true rfl) (fun v hv => by rw [hv]; first | rfl | exact gb_nar _) ?_
  intro pp ee ss mm bw mt cd QQ ls hfx hP hG hret hl
  obtain ⟨hx, hb, hml, hown, hts, hlocks⟩ := hfx
  have hown : ss.vm.findClass RX3 = some mm.cls := hown
  have hl : lv_has ls 3 [(0, .long x), (2, .int (nI k))] := hl
  refine lv_lload_n hx hb dX3_cellAt_0 rfl (lv_at hl 0 rfl) ?_
  refine lv_iconst (v := nI 4) hx hb dX3_cellAt_1 (by decide) ?_
  refine lv_iload_n hx hb dX3_cellAt_2 rfl (lv_at hl 1 rfl) ?_
  refine lv_imul hx hb dX3_cellAt_3 ?_
  refine g_ti (y := nI (4 * k)) (pk_mul _ _) ?_
  refine lv_lushr hx hb dX3_cellAt_4 rfl ?_
  refine lv_ldc2 (v := (15)) hx hb hown (hts (.constantLong RX3 180 (15)) (by decide +kernel)) dX3_cellAt_5 ?_
  refine lv_land hx hb dX3_cellAt_8 ?_
  refine lv_l2i hx hb dX3_cellAt_9 rfl ?_
  refine g_ti (y := nI (cel x k)) (cel_at hk) ?_
  exact hret _ _ _ dX3_cellAt_10 rfl
set_option maxHeartbeats 4000000 in
set_option maxRecDepth 100000 in
theorem c_X2_tileOf (l : Launch) (D : va_G) (cy : Nat → ClassId) (c r : Nat) (hc : c < 16) (hr : r < 12) : Met l yX2_tileOf wsX2_tileOf ({ frames := 0, cells := 0, slots := 0, locals := 0 } : Room) (va_Pc [.int (nI c), .int (nI r)] (gR D (gT cy) [])) (vp_Si (fun r9 => r9 = nI (tl c r))) 0 0 (fun _ => False) := by
  refine gM_i (cc := cX2_tileOf) (maxL := 2) (ty := .int) (by decide) rfl (Nat.le_of_ble_eq_true rfl) (fun v hv => by rw [hv]; first | rfl | exact gb_nar _) ?_
  intro pp ee ss mm bw mt cd QQ ls hfx hP hG hret hl
  obtain ⟨hx, hb, hml, hown, hts, hlocks⟩ := hfx
  have hown : ss.vm.findClass RX2 = some mm.cls := hown
  have hl : lv_has ls 2 [(0, .int (nI c)), (1, .int (nI r))] := hl
  refine lv_iconst (v := nI 4) hx hb dX2_tileOf_0 (by decide) ?_
  refine lv_iload_n hx hb dX2_tileOf_1 rfl (lv_at hl 1 rfl) ?_
  refine lv_iconst (v := nI 4) hx hb dX2_tileOf_2 (by decide) ?_
  refine lv_idiv hx hb dX2_tileOf_3 (nI_ne0 (by omega) (by omega)) ?_
  refine g_ti (y := nI (r / 4)) (pk_div (by omega) (by omega) (by omega)) ?_
  refine lv_imul hx hb dX2_tileOf_4 ?_
  refine g_ti (y := nI (4 * (r / 4))) (pk_mul _ _) ?_
  refine lv_iload_n hx hb dX2_tileOf_5 rfl (lv_at hl 0 rfl) ?_
  refine lv_iconst (v := nI 4) hx hb dX2_tileOf_6 (by decide) ?_
  refine lv_idiv hx hb dX2_tileOf_7 (nI_ne0 (by omega) (by omega)) ?_
  refine g_ti (y := nI (c / 4)) (pk_div (by omega) (by omega) (by omega)) ?_
  refine lv_iadd hx hb dX2_tileOf_8 ?_
  refine g_ti (y := nI ((4 * (r / 4)) + (c / 4))) (nI_add _ _) ?_
  exact hret _ _ _ dX2_tileOf_9 rfl
set_option maxHeartbeats 4000000 in
set_option maxRecDepth 100000 in
theorem c_X2_placeInTile (l : Launch) (D : va_G) (cy : Nat → ClassId) (c r : Nat) (hc : c < 16) (hr : r < 12) : Met l yX2_placeInTile wsX2_placeInTile ({ frames := 0, cells := 0, slots := 0, locals := 0 } : Room) (va_Pc [.int (nI c), .int (nI r)] (gR D (gT cy) [])) (vp_Si (fun r9 => r9 = nI (plc c r))) 0 0 (fun _ => False) := by
  refine gM_i (cc := cX2_placeInTile) (maxL := 2) (ty := .int) (by decide) rfl (Nat.le_of_ble_eq_true rfl) (fun v hv => by rw [hv]; first | rfl | exact gb_nar _) ?_
  intro pp ee ss mm bw mt cd QQ ls hfx hP hG hret hl
  obtain ⟨hx, hb, hml, hown, hts, hlocks⟩ := hfx
  have hown : ss.vm.findClass RX2 = some mm.cls := hown
  have hl : lv_has ls 2 [(0, .int (nI c)), (1, .int (nI r))] := hl
  refine lv_iconst (v := nI 4) hx hb dX2_placeInTile_0 (by decide) ?_
  refine lv_iload_n hx hb dX2_placeInTile_1 rfl (lv_at hl 1 rfl) ?_
  refine lv_iconst (v := nI 4) hx hb dX2_placeInTile_2 (by decide) ?_
  refine lv_irem hx hb dX2_placeInTile_3 (nI_ne0 (by omega) (by omega)) ?_
  refine g_ti (y := nI (r % 4)) (pk_rem (by omega) (by omega) (by omega)) ?_
  refine lv_imul hx hb dX2_placeInTile_4 ?_
  refine g_ti (y := nI (4 * (r % 4))) (pk_mul _ _) ?_
  refine lv_iload_n hx hb dX2_placeInTile_5 rfl (lv_at hl 0 rfl) ?_
  refine lv_iconst (v := nI 4) hx hb dX2_placeInTile_6 (by decide) ?_
  refine lv_irem hx hb dX2_placeInTile_7 (nI_ne0 (by omega) (by omega)) ?_
  refine g_ti (y := nI (c % 4)) (pk_rem (by omega) (by omega) (by omega)) ?_
  refine lv_iadd hx hb dX2_placeInTile_8 ?_
  refine g_ti (y := nI ((4 * (r % 4)) + (c % 4))) (nI_add _ _) ?_
  exact hret _ _ _ dX2_placeInTile_9 rfl
theorem iX2_cellsOf_X2 : ∀ w ∈ wsX20, w ∈ wsX2_cellsOf := by decide +kernel
set_option maxHeartbeats 4000000 in
set_option maxRecDepth 100000 in
theorem c_X2_cellsOf (l : Launch) (D : va_G) (cy : Nat → ClassId) (h t : Nat) (f : Nat → Int64) (k : Nat) (hk : k < 12) : Met l yX2_cellsOf wsX2_cellsOf ({ frames := 0, cells := 0, slots := 0, locals := 0 } : Room) (va_Pc [.ref h, .int (nI k)] (gR D (gT cy) [(h, eScr t), (t, eJ cy 12 f)])) (vp_Sl (fun r9 => r9 = f k)) 0 0 (fun _ => False) := by
  refine gM_l (cc := cX2_cellsOf) (maxL := 2) (by decide) rfl (Nat.le_of_ble_eq_true rfl) ?_
  intro pp ee ss mm bw mt cd QQ ls hfx hP hG hret hl
  obtain ⟨hx, hb, hml, hown, hts, hlocks⟩ := hfx
  have hown : ss.vm.findClass RX2 = some mm.cls := hown
  have hl : lv_has ls 2 [(0, .ref h), (1, .int (nI k))] := hl
  refine lv_aload_n hx hb dX2_cellsOf_0 rfl (lv_at hl 0 rfl) ?_
  refine va_get (D := D) (ci := 2) (v := .ref t) (C := RX2) (T := TX2) (N := 1) hx hb hts iX2_cellsOf_X2 hown hG.1 hP 0 rfl rfl 0 (by decide) (hts (.fieldLink RX2 9 "DirtyTiles$Screen" "tiles" "[J") (by decide +kernel)) (fun _ h9 => h9) rfl dX2_cellsOf_1 ?_
  refine lv_iload_n hx hb dX2_cellsOf_4 rfl (lv_at hl 1 rfl) ?_
  refine g_lald hx hb hG hP 1 1 rfl rfl (k := k) (by omega) (by decide) dX2_cellsOf_5 ?_
  exact hret _ _ _ dX2_cellsOf_6 rfl
theorem iX2_replaceTile_X2 : ∀ w ∈ wsX20, w ∈ wsX2_replaceTile := by decide +kernel
set_option maxHeartbeats 4000000 in
set_option maxRecDepth 100000 in
theorem c_X2_replaceTile (l : Launch) (D : va_G) (cy : Nat → ClassId) (sz : Nat) (h t : Nat) (f : Nat → Int64) (k : Nat) (x : Int64) (hk : k < 12) : Met l yX2_replaceTile wsX2_replaceTile ({ frames := 0, cells := 0, slots := 0, locals := 0 } : Room) (va_Pc [.ref h, .int (nI k), .long x] (gI D (gT cy) [(h, eScr t), (t, eJ cy 12 f)] sz)) (va_Qv (fun u : (Nat → Int64) => u = vp_updL f k x) (gO D (fun u : (Nat → Int64) => [(h, eScr t), (t, eJ cy 12 u)]) (va_A [(h, eScr t), (t, eJ cy 12 f)] sz)) (va_A [(h, eScr t), (t, eJ cy 12 f)] sz)) 0 0 (va_A [(h, eScr t), (t, eJ cy 12 f)] sz) := by
  refine gW_v (cc := cX2_replaceTile) (maxL := 4) (by decide) rfl (Nat.le_of_ble_eq_true rfl) ?_
  intro pp ee ss mm bw mt cd QQ AA ls hfx hP hG hD hA hret hl
  have hS : va_S AA ss.heap ss.heap [] := va_S.rf
  obtain ⟨H, eH⟩ : ∃ H, H = ss.heap := ⟨_, rfl⟩
  obtain ⟨locs, eL⟩ : ∃ L : List Loc, L = [] := ⟨_, rfl⟩
  have hP : va_P D vwCl [(h, eScr t), (t, eJ cy 12 f)] H := by rw [eH]; exact hP
  have hS : va_S AA ss.heap H locs := by rw [eH, eL]; exact hS
  have goal : ∀ X Y, X = H → Y = locs → W pp l ee ({ frames := 0, cells := 0, slots := 0, locals := 0 } : Room) ss mm ([.ref h, .int (nI k), .long x] : List Value).toArray bw mt cd X Y 0 0 QQ (F0 mm 0 ls []) → W pp l ee ({ frames := 0, cells := 0, slots := 0, locals := 0 } : Room) ss mm ([.ref h, .int (nI k), .long x] : List Value).toArray bw mt cd ss.heap [] 0 0 QQ (F0 mm 0 ls []) := fun X Y hX hY h => by rw [hX, hY, eH, eL] at h; exact h
  refine goal H locs rfl rfl ?_
  clear goal eH eL
  obtain ⟨hx, hb, hml, hown, hts, hlocks⟩ := hfx
  have hown : ss.vm.findClass RX2 = some mm.cls := hown
  have hl : lv_has ls 4 [(0, .ref h), (1, .int (nI k)), (2, .long x)] := hl
  refine lv_aload_n hx hb dX2_replaceTile_0 rfl (lv_at hl 0 rfl) ?_
  refine va_get (D := D) (ci := 2) (v := .ref t) (C := RX2) (T := TX2) (N := 1) hx hb hts iX2_replaceTile_X2 hown hG.1 hP 0 rfl rfl 0 (by decide) (hts (.fieldLink RX2 9 "DirtyTiles$Screen" "tiles" "[J") (by decide +kernel)) (fun _ h9 => h9) rfl dX2_replaceTile_1 ?_
  refine lv_iload_n hx hb dX2_replaceTile_4 rfl (lv_at hl 1 rfl) ?_
  refine lv_lload_n hx hb dX2_replaceTile_5 rfl (lv_at hl 2 rfl) ?_
  refine g_last hx hb hG hP hD hS 1 1 rfl rfl (k := k) (by omega) (by decide) dX2_replaceTile_6 (fun H locs hP hD hS => ?_)
  have hP : va_P D vwCl [(h, eScr t), (t, eJ cy 12 (vp_updL f k x))] H := hP
  have hD : va_D AA [(h, eScr t), (t, eJ cy 12 (vp_updL f k x))] := hD
  exact hret _ _ _ _ (vp_updL f k x) dX2_replaceTile_7 (rfl) (hP.sub [0, 1] rfl) (hD.sub [0, 1] (by decide) rfl) hS
theorem iX2_colourAt_X2 : ∀ w ∈ wsX20, w ∈ wsX2_colourAt := by decide +kernel
set_option maxHeartbeats 4000000 in
set_option maxRecDepth 100000 in
theorem c_X2_colourAt (l : Launch) (D : va_G) (cy : Nat → ClassId) (h t : Nat) (f : Nat → Int64) (c r : Nat) (hc : c < 16) (hr : r < 12) : Met l yX2_colourAt wsX2_colourAt ({ frames := 1, cells := 0, slots := 0, locals := 22 } : Room) (va_Pc [.ref h, .int (nI c), .int (nI r)] (gR D (gT cy) [(h, eScr t), (t, eJ cy 12 f)])) (vp_Si (fun r9 => r9 = nI (cel (f (tl c r)) (plc c r)))) 0 0 (fun _ => False) := by
  refine gM_i (cc := cX2_colourAt) (maxL := 3) (ty := .int) (by decide) rfl (Nat.le_of_ble_eq_true rfl) (fun v hv => by rw [hv]; first | rfl | exact gb_nar _) ?_
  intro pp ee ss mm bw mt cd QQ ls hfx hP hG hret hl
  obtain ⟨hx, hb, hml, hown, hts, hlocks⟩ := hfx
  have hown : ss.vm.findClass RX2 = some mm.cls := hown
  have hl : lv_has ls 3 [(0, .ref h), (1, .int (nI c)), (2, .int (nI r))] := hl
  refine lv_aload_n hx hb dX2_colourAt_0 rfl (lv_at hl 0 rfl) ?_
  refine va_get (D := D) (ci := 2) (v := .ref t) (C := RX2) (T := TX2) (N := 1) hx hb hts iX2_colourAt_X2 hown hG.1 hP 0 rfl rfl 0 (by decide) (hts (.fieldLink RX2 9 "DirtyTiles$Screen" "tiles" "[J") (by decide +kernel)) (fun _ h9 => h9) rfl dX2_colourAt_1 ?_
  refine lv_iload_n hx hb dX2_colourAt_4 rfl (lv_at hl 1 rfl) ?_
  refine lv_iload_n hx hb dX2_colourAt_5 rfl (lv_at hl 2 rfl) ?_
  refine gc_Si (va_runS (As := [.int (nI c), .int (nI r)]) (rest := [.ref t]) ⟨hx, hb, hml, hown, hts⟩ (c_X2_tileOf l D cy c r hc hr) (va_cwS 2 hts gX2_colourAt_X2_tileOf rfl rfl rfl (by decide +kernel) ⟨Nat.le_of_ble_eq_true rfl, Nat.le_of_ble_eq_true rfl⟩) (gpSR hG (hP.sub [] rfl)) rfl rfl hl.1 rfl (lv_room (Nat.le_of_ble_eq_true rfl)) dX2_colourAt_6 ⟨Nat.zero_le _, Nat.zero_le _⟩) ?_
  refine g_lald hx hb hG hP 1 1 rfl rfl (k := tl c r) (tl_lt hc hr) (by decide) dX2_colourAt_9 ?_
  refine lv_iload_n hx hb dX2_colourAt_10 rfl (lv_at hl 1 rfl) ?_
  refine lv_iload_n hx hb dX2_colourAt_11 rfl (lv_at hl 2 rfl) ?_
  refine gc_Si (va_runS (As := [.int (nI c), .int (nI r)]) (rest := [.long (f (tl c r))]) ⟨hx, hb, hml, hown, hts⟩ (c_X2_placeInTile l D cy c r hc hr) (va_cwS 2 hts gX2_colourAt_X2_placeInTile rfl rfl rfl (by decide +kernel) ⟨Nat.le_of_ble_eq_true rfl, Nat.le_of_ble_eq_true rfl⟩) (gpSR hG (hP.sub [] rfl)) rfl rfl hl.1 rfl (lv_room (Nat.le_of_ble_eq_true rfl)) dX2_colourAt_12 ⟨Nat.zero_le _, Nat.zero_le _⟩) ?_
  refine gc_Si (va_runSN (host := RX3) (As := [.long (f (tl c r)), .int (nI (plc c r))]) (rest := []) ⟨hx, hb, hml, hown, hts⟩ (c_X3_cellAt l D cy (f (tl c r)) (plc c r) (plc_lt c r)) ⟨va_cnB 2 hts gX2_colourAt_X3_cellAt_n22 rfl rfl rfl hG.2.1 (hts (.initialized RX3) (by decide +kernel)) (by decide +kernel) ⟨Nat.le_of_ble_eq_true rfl, Nat.le_of_ble_eq_true rfl⟩, hts (.static yX3_cellAt) (by decide +kernel), trivial⟩ (gpSR hG (hP.sub [] rfl)) rfl rfl hl.1 rfl (lv_room (Nat.le_of_ble_eq_true rfl)) dX2_colourAt_15 ⟨Nat.zero_le _, Nat.zero_le _⟩) ?_
  exact hret _ _ _ dX2_colourAt_18 rfl
theorem iX2_paint_X2 : ∀ w ∈ wsX20, w ∈ wsX2_paint := by decide +kernel
set_option maxHeartbeats 4000000 in
set_option maxRecDepth 100000 in
theorem c_X2_paint (l : Launch) (D : va_G) (cy : Nat → ClassId) (sz : Nat) (h t : Nat) (f : Nat → Int64) (c r v : Nat) (hc : c < 16) (hr : r < 12) (hv : v < 16) : Met l yX2_paint wsX2_paint ({ frames := 1, cells := 0, slots := 0, locals := 21 } : Room) (va_Pc [.ref h, .int (nI c), .int (nI r), .int (nI v)] (gI D (gT cy) [(h, eScr t), (t, eJ cy 12 f)] sz)) (va_Qv (fun u : (Nat → Int64) => u = vp_updL f (tl c r) (gput (f (tl c r)) (plc c r) v)) (gO D (fun u : (Nat → Int64) => [(h, eScr t), (t, eJ cy 12 u)]) (va_A [(h, eScr t), (t, eJ cy 12 f)] sz)) (va_A [(h, eScr t), (t, eJ cy 12 f)] sz)) 0 0 (va_A [(h, eScr t), (t, eJ cy 12 f)] sz) := by
  refine gW_v (cc := cX2_paint) (maxL := 6) (by decide) rfl (Nat.le_of_ble_eq_true rfl) ?_
  intro pp ee ss mm bw mt cd QQ AA ls hfx hP hG hD hA hret hl
  have hS : va_S AA ss.heap ss.heap [] := va_S.rf
  obtain ⟨H, eH⟩ : ∃ H, H = ss.heap := ⟨_, rfl⟩
  obtain ⟨locs, eL⟩ : ∃ L : List Loc, L = [] := ⟨_, rfl⟩
  have hP : va_P D vwCl [(h, eScr t), (t, eJ cy 12 f)] H := by rw [eH]; exact hP
  have hS : va_S AA ss.heap H locs := by rw [eH, eL]; exact hS
  have goal : ∀ X Y, X = H → Y = locs → W pp l ee ({ frames := 1, cells := 0, slots := 0, locals := 21 } : Room) ss mm ([.ref h, .int (nI c), .int (nI r), .int (nI v)] : List Value).toArray bw mt cd X Y 0 0 QQ (F0 mm 0 ls []) → W pp l ee ({ frames := 1, cells := 0, slots := 0, locals := 21 } : Room) ss mm ([.ref h, .int (nI c), .int (nI r), .int (nI v)] : List Value).toArray bw mt cd ss.heap [] 0 0 QQ (F0 mm 0 ls []) := fun X Y hX hY h => by rw [hX, hY, eH, eL] at h; exact h
  refine goal H locs rfl rfl ?_
  clear goal eH eL
  obtain ⟨hx, hb, hml, hown, hts, hlocks⟩ := hfx
  have hown : ss.vm.findClass RX2 = some mm.cls := hown
  have hl : lv_has ls 6 [(0, .ref h), (1, .int (nI c)), (2, .int (nI r)), (3, .int (nI v))] := hl
  refine lv_iload_n hx hb dX2_paint_0 rfl (lv_at hl 1 rfl) ?_
  refine lv_iload_n hx hb dX2_paint_1 rfl (lv_at hl 2 rfl) ?_
  refine gc_Si (va_runS (As := [.int (nI c), .int (nI r)]) (rest := []) ⟨hx, hb, hml, hown, hts⟩ (c_X2_tileOf l D cy c r hc hr) (va_cwS 2 hts gX2_paint_X2_tileOf rfl rfl rfl (by decide +kernel) ⟨Nat.le_of_ble_eq_true rfl, Nat.le_of_ble_eq_true rfl⟩) (gpSR hG (hP.sub [] rfl)) rfl rfl hl.1 rfl (lv_room (Nat.le_of_ble_eq_true rfl)) dX2_paint_2 ⟨Nat.zero_le _, Nat.zero_le _⟩) ?_
  refine lv_istore (lv' := [(4, .int (nI (tl c r))), (0, .ref h), (1, .int (nI c)), (2, .int (nI r)), (3, .int (nI v))]) hx hb dX2_paint_5 hl (by decide) rfl (fun ls hl => ?_)
  refine lv_iconst (v := nI 4) hx hb dX2_paint_7 (by decide) ?_
  refine lv_iload_n hx hb dX2_paint_8 rfl (lv_at hl 2 rfl) ?_
  refine lv_iload_n hx hb dX2_paint_9 rfl (lv_at hl 3 rfl) ?_
  refine gc_Si (va_runS (As := [.int (nI c), .int (nI r)]) (rest := [.int (nI 4)]) ⟨hx, hb, hml, hown, hts⟩ (c_X2_placeInTile l D cy c r hc hr) (va_cwS 2 hts gX2_paint_X2_placeInTile rfl rfl rfl (by decide +kernel) ⟨Nat.le_of_ble_eq_true rfl, Nat.le_of_ble_eq_true rfl⟩) (gpSR hG (hP.sub [] rfl)) rfl rfl hl.1 rfl (lv_room (Nat.le_of_ble_eq_true rfl)) dX2_paint_10 ⟨Nat.zero_le _, Nat.zero_le _⟩) ?_
  refine lv_imul hx hb dX2_paint_13 ?_
  refine g_ti (y := nI (4 * (plc c r))) (pk_mul _ _) ?_
  refine lv_istore (lv' := [(5, .int (nI (4 * (plc c r)))), (4, .int (nI (tl c r))), (0, .ref h), (1, .int (nI c)), (2, .int (nI r)), (3, .int (nI v))]) hx hb dX2_paint_14 hl (by decide) rfl (fun ls hl => ?_)
  refine lv_aload_n hx hb dX2_paint_16 rfl (lv_at hl 2 rfl) ?_
  refine va_get (D := D) (ci := 2) (v := .ref t) (C := RX2) (T := TX2) (N := 1) hx hb hts iX2_paint_X2 hown hG.1 hP 0 rfl rfl 0 (by decide) (hts (.fieldLink RX2 9 "DirtyTiles$Screen" "tiles" "[J") (by decide +kernel)) (fun _ h9 => h9) rfl dX2_paint_17 ?_
  refine lv_iload hx hb dX2_paint_20 (lv_at hl 1 rfl) ?_
  refine lv_aload_n hx hb dX2_paint_22 rfl (lv_at hl 2 rfl) ?_
  refine va_get (D := D) (ci := 2) (v := .ref t) (C := RX2) (T := TX2) (N := 1) hx hb hts iX2_paint_X2 hown hG.1 hP 0 rfl rfl 0 (by decide) (hts (.fieldLink RX2 9 "DirtyTiles$Screen" "tiles" "[J") (by decide +kernel)) (fun _ h9 => h9) rfl dX2_paint_23 ?_
  refine lv_iload hx hb dX2_paint_26 (lv_at hl 1 rfl) ?_
  refine g_lald hx hb hG hP 1 1 rfl rfl (k := tl c r) (tl_lt hc hr) (by decide) dX2_paint_28 ?_
  refine lv_ldc2 (v := (15)) hx hb hown (hts (.constantLong RX2 26 (15)) (by decide +kernel)) dX2_paint_29 ?_
  refine lv_iload hx hb dX2_paint_32 (lv_at hl 0 rfl) ?_
  refine lv_lshl hx hb dX2_paint_34 rfl ?_
  refine lv_ldc2 (v := (-1)) hx hb hown (hts (.constantLong RX2 28 (-1)) (by decide +kernel)) dX2_paint_35 ?_
  refine lv_lxor hx hb dX2_paint_38 ?_
  refine lv_land hx hb dX2_paint_39 ?_
  refine lv_iload_n hx hb dX2_paint_40 rfl (lv_at hl 5 rfl) ?_
  refine lv_i2l hx hb dX2_paint_41 rfl ?_
  refine lv_iload hx hb dX2_paint_42 (lv_at hl 0 rfl) ?_
  refine lv_lshl hx hb dX2_paint_44 rfl ?_
  refine lv_lor hx hb dX2_paint_45 ?_
  refine g_last hx hb hG hP hD hS 1 1 rfl rfl (k := tl c r) (tl_lt hc hr) (by decide) dX2_paint_46 (fun H locs hP hD hS => ?_)
  have hP : va_P D vwCl [(h, eScr t), (t, eJ cy 12 (vp_updL f (tl c r) (((f (tl c r)) &&& ((((15)) <<< ((nI (4 * (plc c r))).toInt64 &&& 63)) ^^^ ((-1)))) ||| (((nI v).toInt64) <<< ((nI (4 * (plc c r))).toInt64 &&& 63)))))] H := hP
  have hD : va_D AA [(h, eScr t), (t, eJ cy 12 (vp_updL f (tl c r) (((f (tl c r)) &&& ((((15)) <<< ((nI (4 * (plc c r))).toInt64 &&& 63)) ^^^ ((-1)))) ||| (((nI v).toInt64) <<< ((nI (4 * (plc c r))).toInt64 &&& 63)))))] := hD
  exact hret _ _ _ _ (vp_updL f (tl c r) (((f (tl c r)) &&& ((((15)) <<< ((nI (4 * (plc c r))).toInt64 &&& 63)) ^^^ ((-1)))) ||| (((nI v).toInt64) <<< ((nI (4 * (plc c r))).toInt64 &&& 63)))) dX2_paint_47 (rfl) (hP.sub [0, 1] rfl) (hD.sub [0, 1] (by decide) rfl) hS
theorem iX2_become_X2 : ∀ w ∈ wsX20, w ∈ wsX2_become := by decide +kernel
set_option maxHeartbeats 4000000 in
set_option maxRecDepth 100000 in
theorem c_X2_become (l : Launch) (D : va_G) (cy : Nat → ClassId) (sz : Nat) (h t : Nat) (f : Nat → Int64) (h2 t2 : Nat) (g : Nat → Int64)  : Met l yX2_become wsX2_become ({ frames := 0, cells := 0, slots := 0, locals := 0 } : Room) (va_Pc [.ref h, .ref h2] (gI D (gT cy) [(h, eScr t), (t, eJ cy 12 f), (h2, eScr t2), (t2, eJ cy 12 g)] sz)) (va_Qv (fun u : (Nat → Int64) => ∀ k, k < 12 → u k = g k) (gO D (fun u : (Nat → Int64) => [(h, eScr t), (t, eJ cy 12 u), (h2, eScr t2), (t2, eJ cy 12 g)]) (va_A [(h, eScr t), (t, eJ cy 12 f), (h2, eScr t2), (t2, eJ cy 12 g)] sz)) (va_A [(h, eScr t), (t, eJ cy 12 f), (h2, eScr t2), (t2, eJ cy 12 g)] sz)) 0 0 (va_A [(h, eScr t), (t, eJ cy 12 f), (h2, eScr t2), (t2, eJ cy 12 g)] sz) := by
  refine gW_v (cc := cX2_become) (maxL := 3) (by decide) rfl (Nat.le_of_ble_eq_true rfl) ?_
  intro pp ee ss mm bw mt cd QQ AA ls hfx hP hG hD hA hret hl
  have hS : va_S AA ss.heap ss.heap [] := va_S.rf
  obtain ⟨H, eH⟩ : ∃ H, H = ss.heap := ⟨_, rfl⟩
  obtain ⟨locs, eL⟩ : ∃ L : List Loc, L = [] := ⟨_, rfl⟩
  have hP : va_P D vwCl [(h, eScr t), (t, eJ cy 12 f), (h2, eScr t2), (t2, eJ cy 12 g)] H := by rw [eH]; exact hP
  have hS : va_S AA ss.heap H locs := by rw [eH, eL]; exact hS
  have goal : ∀ X Y, X = H → Y = locs → W pp l ee ({ frames := 0, cells := 0, slots := 0, locals := 0 } : Room) ss mm ([.ref h, .ref h2] : List Value).toArray bw mt cd X Y 0 0 QQ (F0 mm 0 ls []) → W pp l ee ({ frames := 0, cells := 0, slots := 0, locals := 0 } : Room) ss mm ([.ref h, .ref h2] : List Value).toArray bw mt cd ss.heap [] 0 0 QQ (F0 mm 0 ls []) := fun X Y hX hY h => by rw [hX, hY, eH, eL] at h; exact h
  refine goal H locs rfl rfl ?_
  clear goal eH eL
  obtain ⟨hx, hb, hml, hown, hts, hlocks⟩ := hfx
  have hown : ss.vm.findClass RX2 = some mm.cls := hown
  have hl : lv_has ls 3 [(0, .ref h), (1, .ref h2)] := hl
  refine lv_iconst (v := nI 0) hx hb dX2_become_0 (by decide) ?_
  refine lv_istore_n (lv' := [(2, .int (nI 0)), (0, .ref h), (1, .ref h2)]) hx hb dX2_become_1 rfl hl (by decide) rfl (fun ls hl => ?_)
  have loop_2 : ∀ (n9 : Nat) (i : Nat) (b : Nat → Int64), 12 - i < n9 → (i ≤ 12) → (∀ k, k < i → b k = g k) → ∀ (H : Heap) (locs : List Loc) (ls : Array Slot), va_P D vwCl [(h, eScr t), (t, eJ cy 12 b), (h2, eScr t2), (t2, eJ cy 12 g)] H → va_D AA [(h, eScr t), (t, eJ cy 12 b), (h2, eScr t2), (t2, eJ cy 12 g)] → va_S AA ss.heap H locs → lv_has ls 3 [(0, .ref h), (1, .ref h2), (2, .int (nI i))] → W pp l ee ({ frames := 0, cells := 0, slots := 0, locals := 0 } : Room) ss mm ([.ref h, .ref h2] : List Value).toArray bw mt cd H locs 0 0 QQ (F0 mm 2 ls []) := by
    intro n9
    induction n9 with
    | zero => intro i b h9; exact absurd h9 (Nat.not_lt_zero _)
    | succ n9 ih_2 =>
      intro i b hm_2 hi hb9 H locs ls hP hD hS hl
      refine lv_iload_n hx hb dX2_become_2 rfl (lv_at hl 2 rfl) ?_
      refine lv_bipush (v := nI 12) hx hb dX2_become_3 (by decide) ?_
      refine lv_icmp_ge (tgt := 26) hx hb dX2_become_5 (by decide) (fun c_5 => ?_) (fun c_5 => ?_)
      · skip
        have c_5 : 12 ≤ i := (nI_leI (a := 12) (b := i) (by omega) (by omega)).mp c_5
        exact hret _ _ _ _ b dX2_become_26 (fun k hk => hb9 k (by omega)) (hP.sub [0, 1, 2, 3] rfl) (hD.sub [0, 1, 2, 3] (by decide) rfl) hS
      · skip
        have c_5 : ¬ 12 ≤ i := fun z => c_5 ((nI_leI (a := 12) (b := i) (by omega) (by omega)).mpr z)
        refine lv_aload_n hx hb dX2_become_8 rfl (lv_at hl 0 rfl) ?_
        refine va_get (D := D) (ci := 2) (v := .ref t) (C := RX2) (T := TX2) (N := 1) hx hb hts iX2_become_X2 hown hG.1 hP 0 rfl rfl 0 (by decide) (hts (.fieldLink RX2 9 "DirtyTiles$Screen" "tiles" "[J") (by decide +kernel)) (fun _ h9 => h9) rfl dX2_become_9 ?_
        refine lv_iload_n hx hb dX2_become_12 rfl (lv_at hl 2 rfl) ?_
        refine lv_aload_n hx hb dX2_become_13 rfl (lv_at hl 1 rfl) ?_
        refine va_get (D := D) (ci := 2) (v := .ref t2) (C := RX2) (T := TX2) (N := 1) hx hb hts iX2_become_X2 hown hG.1 hP 2 rfl rfl 0 (by decide) (hts (.fieldLink RX2 9 "DirtyTiles$Screen" "tiles" "[J") (by decide +kernel)) (fun _ h9 => h9) rfl dX2_become_14 ?_
        refine lv_iload_n hx hb dX2_become_17 rfl (lv_at hl 2 rfl) ?_
        refine g_lald hx hb hG hP 3 1 rfl rfl (k := i) (by omega) (by decide) dX2_become_18 ?_
        refine g_last hx hb hG hP hD hS 1 1 rfl rfl (k := i) (by omega) (by decide) dX2_become_19 (fun H locs hP hD hS => ?_)
        have hP : va_P D vwCl [(h, eScr t), (t, eJ cy 12 (vp_updL b i (g i))), (h2, eScr t2), (t2, eJ cy 12 g)] H := hP
        have hD : va_D AA [(h, eScr t), (t, eJ cy 12 (vp_updL b i (g i))), (h2, eScr t2), (t2, eJ cy 12 g)] := hD
        refine lv_iinc (v := nI (i + 1)) (lv' := [(2, .int (nI (i + 1))), (0, .ref h), (1, .ref h2)]) hx hb dX2_become_20 hl (k := 2) rfl (nI_1 _) (by decide) rfl (fun ls hl => ?_)
        refine lv_goto (tgt := 2) hx hb dX2_become_23 (by decide) ?_
        exact ih_2 (i + 1) (vp_updL b i (g i)) (by omega) (by omega) (g_covL hb9 rfl) _ _ _ (hP.sub [0, 1, 2, 3] rfl) (hD.sub [0, 1, 2, 3] (by decide) rfl) hS (lv_sub hl [1, 2, 0] rfl)
  exact loop_2 ((12 - 0) + 1) 0 f (Nat.lt_succ_self _) (by omega) (fun k hk => absurd hk (Nat.not_lt_zero k)) _ _ _ (hP.sub [0, 1, 2, 3] rfl) (hD.sub [0, 1, 2, 3] (by decide) rfl) hS (lv_sub hl [1, 2, 0] rfl)
theorem iX2_clear_X2 : ∀ w ∈ wsX20, w ∈ wsX2_clear := by decide +kernel
set_option maxHeartbeats 4000000 in
set_option maxRecDepth 100000 in
theorem c_X2_clear (l : Launch) (D : va_G) (cy : Nat → ClassId) (sz : Nat) (h t : Nat) (f : Nat → Int64)  : Met l yX2_clear wsX2_clear ({ frames := 0, cells := 0, slots := 0, locals := 0 } : Room) (va_Pc [.ref h] (gI D (gT cy) [(h, eScr t), (t, eJ cy 12 f)] sz)) (va_Qv (fun u : (Nat → Int64) => ∀ k, k < 12 → u k = 0) (gO D (fun u : (Nat → Int64) => [(h, eScr t), (t, eJ cy 12 u)]) (va_A [(h, eScr t), (t, eJ cy 12 f)] sz)) (va_A [(h, eScr t), (t, eJ cy 12 f)] sz)) 0 0 (va_A [(h, eScr t), (t, eJ cy 12 f)] sz) := by
  refine gW_v (cc := cX2_clear) (maxL := 2) (by decide) rfl (Nat.le_of_ble_eq_true rfl) ?_
  intro pp ee ss mm bw mt cd QQ AA ls hfx hP hG hD hA hret hl
  have hS : va_S AA ss.heap ss.heap [] := va_S.rf
  obtain ⟨H, eH⟩ : ∃ H, H = ss.heap := ⟨_, rfl⟩
  obtain ⟨locs, eL⟩ : ∃ L : List Loc, L = [] := ⟨_, rfl⟩
  have hP : va_P D vwCl [(h, eScr t), (t, eJ cy 12 f)] H := by rw [eH]; exact hP
  have hS : va_S AA ss.heap H locs := by rw [eH, eL]; exact hS
  have goal : ∀ X Y, X = H → Y = locs → W pp l ee ({ frames := 0, cells := 0, slots := 0, locals := 0 } : Room) ss mm ([.ref h] : List Value).toArray bw mt cd X Y 0 0 QQ (F0 mm 0 ls []) → W pp l ee ({ frames := 0, cells := 0, slots := 0, locals := 0 } : Room) ss mm ([.ref h] : List Value).toArray bw mt cd ss.heap [] 0 0 QQ (F0 mm 0 ls []) := fun X Y hX hY h => by rw [hX, hY, eH, eL] at h; exact h
  refine goal H locs rfl rfl ?_
  clear goal eH eL
  obtain ⟨hx, hb, hml, hown, hts, hlocks⟩ := hfx
  have hown : ss.vm.findClass RX2 = some mm.cls := hown
  have hl : lv_has ls 2 [(0, .ref h)] := hl
  refine lv_iconst (v := nI 0) hx hb dX2_clear_0 (by decide) ?_
  refine lv_istore_n (lv' := [(1, .int (nI 0)), (0, .ref h)]) hx hb dX2_clear_1 rfl hl (by decide) rfl (fun ls hl => ?_)
  have loop_2 : ∀ (n9 : Nat) (i : Nat) (b : Nat → Int64), 12 - i < n9 → (i ≤ 12) → (∀ k, k < i → b k = 0) → ∀ (H : Heap) (locs : List Loc) (ls : Array Slot), va_P D vwCl [(h, eScr t), (t, eJ cy 12 b)] H → va_D AA [(h, eScr t), (t, eJ cy 12 b)] → va_S AA ss.heap H locs → lv_has ls 2 [(0, .ref h), (1, .int (nI i))] → W pp l ee ({ frames := 0, cells := 0, slots := 0, locals := 0 } : Room) ss mm ([.ref h] : List Value).toArray bw mt cd H locs 0 0 QQ (F0 mm 2 ls []) := by
    intro n9
    induction n9 with
    | zero => intro i b h9; exact absurd h9 (Nat.not_lt_zero _)
    | succ n9 ih_2 =>
      intro i b hm_2 hi hb9 H locs ls hP hD hS hl
      refine lv_iload_n hx hb dX2_clear_2 rfl (lv_at hl 1 rfl) ?_
      refine lv_bipush (v := nI 12) hx hb dX2_clear_3 (by decide) ?_
      refine lv_icmp_ge (tgt := 21) hx hb dX2_clear_5 (by decide) (fun c_5 => ?_) (fun c_5 => ?_)
      · skip
        have c_5 : 12 ≤ i := (nI_leI (a := 12) (b := i) (by omega) (by omega)).mp c_5
        exact hret _ _ _ _ b dX2_clear_21 (fun k hk => hb9 k (by omega)) (hP.sub [0, 1] rfl) (hD.sub [0, 1] (by decide) rfl) hS
      · skip
        have c_5 : ¬ 12 ≤ i := fun z => c_5 ((nI_leI (a := 12) (b := i) (by omega) (by omega)).mpr z)
        refine lv_aload_n hx hb dX2_clear_8 rfl (lv_at hl 0 rfl) ?_
        refine va_get (D := D) (ci := 2) (v := .ref t) (C := RX2) (T := TX2) (N := 1) hx hb hts iX2_clear_X2 hown hG.1 hP 0 rfl rfl 0 (by decide) (hts (.fieldLink RX2 9 "DirtyTiles$Screen" "tiles" "[J") (by decide +kernel)) (fun _ h9 => h9) rfl dX2_clear_9 ?_
        refine lv_iload_n hx hb dX2_clear_12 rfl (lv_at hl 1 rfl) ?_
        refine lv_lconst (v := 0) hx hb dX2_clear_13 (by decide) ?_
        refine g_last hx hb hG hP hD hS 1 1 rfl rfl (k := i) (by omega) (by decide) dX2_clear_14 (fun H locs hP hD hS => ?_)
        have hP : va_P D vwCl [(h, eScr t), (t, eJ cy 12 (vp_updL b i 0))] H := hP
        have hD : va_D AA [(h, eScr t), (t, eJ cy 12 (vp_updL b i 0))] := hD
        refine lv_iinc (v := nI (i + 1)) (lv' := [(1, .int (nI (i + 1))), (0, .ref h)]) hx hb dX2_clear_15 hl (k := 1) rfl (nI_1 _) (by decide) rfl (fun ls hl => ?_)
        refine lv_goto (tgt := 2) hx hb dX2_clear_18 (by decide) ?_
        exact ih_2 (i + 1) (vp_updL b i 0) (by omega) (by omega) (g_covL (g := fun _ => 0) hb9 rfl) _ _ _ (hP.sub [0, 1] rfl) (hD.sub [0, 1] (by decide) rfl) hS (lv_sub hl [1, 0] rfl)
  exact loop_2 ((12 - 0) + 1) 0 f (Nat.lt_succ_self _) (by omega) (fun k hk => absurd hk (Nat.not_lt_zero k)) _ _ _ (hP.sub [0, 1] rfl) (hD.sub [0, 1] (by decide) rfl) hS (lv_sub hl [1, 0] rfl)
end
section
/-! the class: caches -/
/-! lists of tiles, as a cache holds them -/
def hC (L : List Int64) (f : Nat → Int64) : Prop := ∀ i, i < L.length → L[i]? = some (f i)
def ixF : List Int64 → Int64 → Nat
  | [], _ => 0
  | y :: r, x => if y = x then 0 else ixF r x + 1
theorem ixF_le : ∀ (L : List Int64) (x : Int64), ixF L x ≤ L.length
  | [], _ => Nat.le_refl _
  | y :: r, x => by
    unfold ixF
    split
    · exact Nat.zero_le _
    · exact Nat.succ_le_succ (ixF_le r x)
theorem ixF_at : ∀ (L : List Int64) (x : Int64) (i : Nat), i ≤ L.length → (∀ j, j < i → L[j]? ≠ some x) → (i < L.length → L[i]? = some x) → ixF L x = i
  | [], x, i, hi, _, _ => by
    have : i = 0 := Nat.le_zero.mp hi
    rw [this]; rfl
  | y :: r, x, 0, _, _, h => by
    have h0 := h (Nat.succ_pos _)
    have : y = x := by simpa using h0
    unfold ixF
    rw [if_pos this]
  | y :: r, x, i + 1, hi, hno, h => by
    have h0 : y ≠ x := fun e => hno 0 (Nat.succ_pos _) (by rw [e]; rfl)
    unfold ixF
    rw [if_neg h0]
    refine congrArg (· + 1) (ixF_at r x i (Nat.le_of_succ_le_succ hi) (fun j hj => ?_) (fun hl => ?_))
    · have := hno (j + 1) (Nat.succ_lt_succ hj)
      simpa using this
    · have := h (Nat.succ_lt_succ hl)
      simpa using this
/-- a tile to the front of a cache -/
def brg (L : List Int64) (x : Int64) : List Int64 := x :: (L.eraseIdx (ixF L x)).take 5
theorem brg_len {L : List Int64} {x : Int64} (hL : L.length ≤ 6) : (brg L x).length = if ixF L x = L.length ∧ L.length < 6 then L.length + 1 else L.length := by
  have h := ixF_le L x
  unfold brg
  rw [List.length_cons, List.length_take, List.length_eraseIdx]
  split <;> split <;> omega
theorem brg_le (L : List Int64) (x : Int64) : (brg L x).length ≤ 6 := by
  unfold brg
  rw [List.length_cons, List.length_take]
  omega
theorem brg_hC {L : List Int64} {x : Int64} {f g : Nat → Int64} (hf : hC L f) (hL : L.length ≤ 6) (hg : ∀ i, i ≤ 5 → g i = if 0 < i ∧ i ≤ min (ixF L x) 5 then f (i - 1) else f i) : hC (brg L x) (vp_updL g 0 x) := by
  intro i hi
  have hp := ixF_le L x
  cases i with
  | zero => rw [pk_uLs]; rfl
  | succ k =>
    rw [pk_uLn (Nat.succ_ne_zero k)]
    unfold brg at hi ⊢
    rw [List.length_cons, List.length_take, List.length_eraseIdx] at hi
    have hk : k < 5 := by omega
    rw [List.getElem?_cons_succ, List.getElem?_take, if_pos hk, List.getElem?_eraseIdx, hg (k + 1) (by omega)]
    by_cases hc : k < ixF L x
    · rw [if_pos hc, if_pos ⟨Nat.succ_pos _, by omega⟩]
      exact hf k (by omega)
    · rw [if_neg hc, if_neg (by omega)]
      refine hf (k + 1) ?_
      split at hi <;> omega
theorem hC_eq {L K : List Int64} {f g : Nat → Int64} (hf : hC L f) (hg : hC K g) (hl : L.length = K.length) (h : ∀ i, i < L.length → f i = g i) : L = K := by
  apply List.ext_getElem?
  intro i
  by_cases hi : i < L.length
  · rw [hf i hi, hg i (by omega), h i hi]
  · rw [List.getElem?_eq_none (by omega), List.getElem?_eq_none (by omega)]
theorem hC_ne {L K : List Int64} {f g : Nat → Int64} (hf : hC L f) (hg : hC K g) {i : Nat} (hi : i < L.length) (h : ¬ f i = g i) : ¬ L = K := by
  intro e
  subst e
  exact h (Option.some.inj ((hf i hi).symm.trans (hg i hi)))
theorem iX0_size_X0 : ∀ w ∈ wsX00, w ∈ wsX0_size := by decide +kernel
set_option maxHeartbeats 4000000 in
set_option maxRecDepth 100000 in
theorem c_X0_size (l : Launch) (D : va_G) (cy : Nat → ClassId) (h t : Nat) (L : List Int64) (f : Nat → Int64) (hf : hC L f) (hL : L.length ≤ 6) : Met l yX0_size wsX0_size ({ frames := 0, cells := 0, slots := 0, locals := 0 } : Room) (va_Pc [.ref h] (gR D (gT cy) [(h, eCch t (nI L.length)), (t, eJ cy 6 f)])) (vp_Si (fun r9 => r9 = nI L.length)) 0 0 (fun _ => False) := by
  refine gM_i (cc := cX0_size) (maxL := 1) (ty := .int) (by decide) rfl (Nat.le_of_ble_eq_true rfl) (fun v hv => by rw [hv]; first | rfl | exact gb_nar _) ?_
  intro pp ee ss mm bw mt cd QQ ls hfx hP hG hret hl
  obtain ⟨hx, hb, hml, hown, hts, hlocks⟩ := hfx
  have hown : ss.vm.findClass RX0 = some mm.cls := hown
  have hl : lv_has ls 1 [(0, .ref h)] := hl
  refine lv_aload_n hx hb dX0_size_0 rfl (lv_at hl 0 rfl) ?_
  refine va_get (D := D) (ci := 0) (v := .int (nI L.length)) (C := RX0) (T := TX0) (N := 2) hx hb hts iX0_size_X0 hown hG.1 hP 0 rfl rfl 1 (by decide) (hts (.fieldLink RX0 15 "DirtyTiles$Cache" "count" "I") (by decide +kernel)) (fun _ h9 => h9) rfl dX0_size_1 ?_
  exact hret _ _ _ dX0_size_4 rfl
theorem iX0_clear_X0 : ∀ w ∈ wsX00, w ∈ wsX0_clear := by decide +kernel
set_option maxHeartbeats 4000000 in
set_option maxRecDepth 100000 in
theorem c_X0_clear (l : Launch) (D : va_G) (cy : Nat → ClassId) (sz : Nat) (h t : Nat) (n : Int32) (f : Nat → Int64)  : Met l yX0_clear wsX0_clear ({ frames := 0, cells := 0, slots := 0, locals := 0 } : Room) (va_Pc [.ref h] (gI D (gT cy) [(h, eCch t n), (t, eJ cy 6 f)] sz)) (va_Qv (fun u : Unit => (True)) (gO D (fun u : Unit => [(h, eCch t (nI 0)), (t, eJ cy 6 f)]) (va_A [(h, eCch t n), (t, eJ cy 6 f)] sz)) (va_A [(h, eCch t n), (t, eJ cy 6 f)] sz)) 0 0 (va_A [(h, eCch t n), (t, eJ cy 6 f)] sz) := by
  refine gW_v (cc := cX0_clear) (maxL := 1) (by decide) rfl (Nat.le_of_ble_eq_true rfl) ?_
  intro pp ee ss mm bw mt cd QQ AA ls hfx hP hG hD hA hret hl
  have hS : va_S AA ss.heap ss.heap [] := va_S.rf
  obtain ⟨H, eH⟩ : ∃ H, H = ss.heap := ⟨_, rfl⟩
  obtain ⟨locs, eL⟩ : ∃ L : List Loc, L = [] := ⟨_, rfl⟩
  have hP : va_P D vwCl [(h, eCch t n), (t, eJ cy 6 f)] H := by rw [eH]; exact hP
  have hS : va_S AA ss.heap H locs := by rw [eH, eL]; exact hS
  have goal : ∀ X Y, X = H → Y = locs → W pp l ee ({ frames := 0, cells := 0, slots := 0, locals := 0 } : Room) ss mm ([.ref h] : List Value).toArray bw mt cd X Y 0 0 QQ (F0 mm 0 ls []) → W pp l ee ({ frames := 0, cells := 0, slots := 0, locals := 0 } : Room) ss mm ([.ref h] : List Value).toArray bw mt cd ss.heap [] 0 0 QQ (F0 mm 0 ls []) := fun X Y hX hY h => by rw [hX, hY, eH, eL] at h; exact h
  refine goal H locs rfl rfl ?_
  clear goal eH eL
  obtain ⟨hx, hb, hml, hown, hts, hlocks⟩ := hfx
  have hown : ss.vm.findClass RX0 = some mm.cls := hown
  have hl : lv_has ls 1 [(0, .ref h)] := hl
  refine lv_aload_n hx hb dX0_clear_0 rfl (lv_at hl 0 rfl) ?_
  refine lv_iconst (v := nI 0) hx hb dX0_clear_1 (by decide) ?_
  refine va_put (D := D) (ci := 0) (v := .int (nI 0)) (ty := .int) (C := RX0) (T := TX0) (N := 2) hx hb hts iX0_clear_X0 tyX0 tyX0_ok nmX0 hown hG.1 hP hD hS 0 rfl rfl 1 (by decide) (hts (.fieldLink RX0 15 "DirtyTiles$Cache" "count" "I") (by decide +kernel)) (fun _ h9 => h9) rfl (by decide +kernel) rfl rfl (Nat.le_of_ble_eq_true rfl) dX0_clear_2 (fun H locs hP hD hS => ?_)
  have hP : va_P D vwCl [(h, eCch t (nI 0)), (t, eJ cy 6 f)] H := hP
  have hD : va_D AA [(h, eCch t (nI 0)), (t, eJ cy 6 f)] := hD
  exact hret _ _ _ _ () dX0_clear_5 (trivial) (hP.sub [0, 1] rfl) (hD.sub [0, 1] (by decide) rfl) hS
theorem iX0_placeOf_X0 : ∀ w ∈ wsX00, w ∈ wsX0_placeOf := by decide +kernel
set_option maxHeartbeats 4000000 in
set_option maxRecDepth 100000 in
theorem c_X0_placeOf (l : Launch) (D : va_G) (cy : Nat → ClassId) (h t : Nat) (L : List Int64) (f : Nat → Int64) (x : Int64) (hf : hC L f) (hL : L.length ≤ 6) : Met l yX0_placeOf wsX0_placeOf ({ frames := 0, cells := 0, slots := 0, locals := 0 } : Room) (va_Pc [.ref h, .long x] (gR D (gT cy) [(h, eCch t (nI L.length)), (t, eJ cy 6 f)])) (vp_Si (fun r9 => r9 = nI (ixF L x))) 0 0 (fun _ => False) := by
  refine gM_i (cc := cX0_placeOf) (maxL := 4) (ty := .int) (by decide) rfl (Nat.le_of_ble_eq_true rfl) (fun v hv => by rw [hv]; first | rfl | exact gb_nar _) ?_
  intro pp ee ss mm bw mt cd QQ ls hfx hP hG hret hl
  obtain ⟨hx, hb, hml, hown, hts, hlocks⟩ := hfx
  have hown : ss.vm.findClass RX0 = some mm.cls := hown
  have hl : lv_has ls 4 [(0, .ref h), (1, .long x)] := hl
  refine lv_iconst (v := nI 0) hx hb dX0_placeOf_0 (by decide) ?_
  refine lv_istore_n (lv' := [(3, .int (nI 0)), (0, .ref h), (1, .long x)]) hx hb dX0_placeOf_1 rfl hl (by decide) rfl (fun ls hl => ?_)
  have loop_2 : ∀ (n9 : Nat) (i : Nat), L.length - i < n9 → (i ≤ L.length) → (∀ j, j < i → L[j]? ≠ some x) → ∀ (ls : Array Slot), lv_has ls 4 [(0, .ref h), (1, .long x), (3, .int (nI i))] → W pp l ee ({ frames := 0, cells := 0, slots := 0, locals := 0 } : Room) ss mm ([.ref h, .long x] : List Value).toArray bw mt cd ss.heap [] 0 0 QQ (F0 mm 2 ls []) := by
    intro n9
    induction n9 with
    | zero => intro i h9; exact absurd h9 (Nat.not_lt_zero _)
    | succ n9 ih_2 =>
      intro i hm_2 hi hno ls hl
      refine lv_iload_n hx hb dX0_placeOf_2 rfl (lv_at hl 2 rfl) ?_
      refine lv_aload_n hx hb dX0_placeOf_3 rfl (lv_at hl 0 rfl) ?_
      refine va_get (D := D) (ci := 0) (v := .int (nI L.length)) (C := RX0) (T := TX0) (N := 2) hx hb hts iX0_placeOf_X0 hown hG.1 hP 0 rfl rfl 1 (by decide) (hts (.fieldLink RX0 15 "DirtyTiles$Cache" "count" "I") (by decide +kernel)) (fun _ h9 => h9) rfl dX0_placeOf_4 ?_
      refine lv_icmp_ge (tgt := 29) hx hb dX0_placeOf_7 (by decide) (fun c_7 => ?_) (fun c_7 => ?_)
      · skip
        have c_7 : L.length ≤ i := (nI_leI (a := L.length) (b := i) (by omega) (by omega)).mp c_7
        refine lv_aload_n hx hb dX0_placeOf_29 rfl (lv_at hl 0 rfl) ?_
        refine va_get (D := D) (ci := 0) (v := .int (nI L.length)) (C := RX0) (T := TX0) (N := 2) hx hb hts iX0_placeOf_X0 hown hG.1 hP 0 rfl rfl 1 (by decide) (hts (.fieldLink RX0 15 "DirtyTiles$Cache" "count" "I") (by decide +kernel)) (fun _ h9 => h9) rfl dX0_placeOf_30 ?_
        exact hret _ _ _ dX0_placeOf_33 (by rw [ixF_at L x i hi hno (fun hl => absurd hl (by omega))]; have : i = L.length := (by omega); rw [this])
      · skip
        have c_7 : ¬ L.length ≤ i := fun z => c_7 ((nI_leI (a := L.length) (b := i) (by omega) (by omega)).mpr z)
        refine lv_aload_n hx hb dX0_placeOf_10 rfl (lv_at hl 0 rfl) ?_
        refine va_get (D := D) (ci := 0) (v := .ref t) (C := RX0) (T := TX0) (N := 2) hx hb hts iX0_placeOf_X0 hown hG.1 hP 0 rfl rfl 0 (by decide) (hts (.fieldLink RX0 9 "DirtyTiles$Cache" "tiles" "[J") (by decide +kernel)) (fun _ h9 => h9) rfl dX0_placeOf_11 ?_
        refine lv_iload_n hx hb dX0_placeOf_14 rfl (lv_at hl 2 rfl) ?_
        refine g_lald hx hb hG hP 1 1 rfl rfl (k := i) (by omega) (by decide) dX0_placeOf_15 ?_
        refine lv_lload_n hx hb dX0_placeOf_16 rfl (lv_at hl 1 rfl) ?_
        refine W.lcmp hx hb dX0_placeOf_17 ?_
        refine lv_if_ne (tgt := 23) hx hb dX0_placeOf_18 (by decide) (fun c_18 => ?_) (fun c_18 => ?_)
        · skip
          have c_18 : ¬ f i = x := fun z => c_18 (g_cmp0.mpr z)
          refine lv_iinc (v := nI (i + 1)) (lv' := [(3, .int (nI (i + 1))), (0, .ref h), (1, .long x)]) hx hb dX0_placeOf_23 hl (k := 2) rfl (nI_1 _) (by decide) rfl (fun ls hl => ?_)
          refine lv_goto (tgt := 2) hx hb dX0_placeOf_26 (by decide) ?_
          exact ih_2 (i + 1) (by omega) (by omega) (lt_s hno (fun e => c_18 (Option.some.inj ((hf i (by omega)).symm.trans e)))) _ (lv_sub hl [1, 2, 0] rfl)
        · skip
          have c_18 : f i = x := g_cmp0.mp c_18
          refine lv_iload_n hx hb dX0_placeOf_21 rfl (lv_at hl 2 rfl) ?_
          exact hret _ _ _ dX0_placeOf_22 (by rw [ixF_at L x i hi hno (fun hl => by rw [hf i hl, c_18])])
  exact loop_2 ((L.length - 0) + 1) 0 (Nat.lt_succ_self _) (by omega) (fun j hj => absurd hj (Nat.not_lt_zero j)) _ (lv_sub hl [1, 2, 0] rfl)
theorem iX0_holds_X0 : ∀ w ∈ wsX00, w ∈ wsX0_holds := by decide +kernel
set_option maxHeartbeats 4000000 in
set_option maxRecDepth 100000 in
theorem c_X0_holds (l : Launch) (D : va_G) (cy : Nat → ClassId) (h t : Nat) (L : List Int64) (f : Nat → Int64) (x : Int64) (hf : hC L f) (hL : L.length ≤ 6) : Met l yX0_holds wsX0_holds ({ frames := 1, cells := 0, slots := 0, locals := 23 } : Room) (va_Pc [.ref h, .long x] (gR D (gT cy) [(h, eCch t (nI L.length)), (t, eJ cy 6 f)])) (vp_Si (fun r9 => r9 = gb (ixF L x < L.length))) 0 0 (fun _ => False) := by
  refine gM_i (cc := cX0_holds) (maxL := 3) (ty := .boolean) (by decide) rfl (Nat.le_of_ble_eq_true rfl) (fun v hv => by rw [hv]; first | rfl | exact gb_nar _) ?_
  intro pp ee ss mm bw mt cd QQ ls hfx hP hG hret hl
  obtain ⟨hx, hb, hml, hown, hts, hlocks⟩ := hfx
  have hown : ss.vm.findClass RX0 = some mm.cls := hown
  have hl : lv_has ls 3 [(0, .ref h), (1, .long x)] := hl
  refine lv_aload_n hx hb dX0_holds_0 rfl (lv_at hl 0 rfl) ?_
  refine lv_lload_n hx hb dX0_holds_1 rfl (lv_at hl 1 rfl) ?_
  refine gc_Si (va_runV (As := [.long x]) (rest := []) ⟨hx, hb, hml, hown, hts⟩ (c_X0_placeOf l D cy h t L f x hf hL) (cwV 1 hts gX0_holds_X0_placeOf rfl rfl rfl (by decide +kernel) ⟨Nat.le_of_ble_eq_true rfl, Nat.le_of_ble_eq_true rfl⟩) (gpVR (ci := 0) (q0 := 0) hG (hP.sub [0, 1] rfl) rfl rfl) rfl rfl hl.1 rfl (lv_room (Nat.le_of_ble_eq_true rfl)) dX0_holds_2 ⟨Nat.zero_le _, Nat.zero_le _⟩) ?_
  refine lv_aload_n hx hb dX0_holds_5 rfl (lv_at hl 0 rfl) ?_
  refine va_get (D := D) (ci := 0) (v := .int (nI L.length)) (C := RX0) (T := TX0) (N := 2) hx hb hts iX0_holds_X0 hown hG.1 hP 0 rfl rfl 1 (by decide) (hts (.fieldLink RX0 15 "DirtyTiles$Cache" "count" "I") (by decide +kernel)) (fun _ h9 => h9) rfl dX0_holds_6 ?_
  have hz := ixF_le L x
  refine lv_icmp_ge (tgt := 16) hx hb dX0_holds_9 (by decide) (fun c_9 => ?_) (fun c_9 => ?_)
  · skip
    have c_9 : L.length ≤ (ixF L x) := (nI_leI (a := L.length) (b := (ixF L x)) (by omega) (by omega)).mp c_9
    refine lv_iconst (v := nI 0) hx hb dX0_holds_16 (by decide) ?_
    exact hret _ _ _ dX0_holds_17 (by first | exact (gb_t (by omega)).symm | exact (gb_f (by omega)).symm)
  · skip
    have c_9 : ¬ L.length ≤ (ixF L x) := fun z => c_9 ((nI_leI (a := L.length) (b := (ixF L x)) (by omega) (by omega)).mpr z)
    refine lv_iconst (v := nI 1) hx hb dX0_holds_12 (by decide) ?_
    refine lv_goto (tgt := 17) hx hb dX0_holds_13 (by decide) ?_
    exact hret _ _ _ dX0_holds_17 (by first | exact (gb_t (by omega)).symm | exact (gb_f (by omega)).symm)
theorem brg_step {p j : Nat} {f g : Nat → Int64} (hj : j ≤ min p 5) (h0 : 0 < j) (hg : ∀ i, i ≤ 5 → g i = if j < i ∧ i ≤ min p 5 then f (i - 1) else f i) : ∀ i, i ≤ 5 → vp_updL g j (g (j - 1)) i = if j - 1 < i ∧ i ≤ min p 5 then f (i - 1) else f i := by
  intro i hi
  unfold vp_updL
  by_cases e : i = j
  · subst e
    rw [if_pos rfl, if_pos ⟨by omega, hj⟩, hg (i - 1) (by omega), if_neg (by omega)]
  · rw [if_neg e, hg i hi]
    by_cases h1 : j < i ∧ i ≤ min p 5
    · rw [if_pos h1, if_pos ⟨by omega, h1.2⟩]
    · rw [if_neg h1, if_neg (by omega)]
theorem iX0_bringToFront_X0 : ∀ w ∈ wsX00, w ∈ wsX0_bringToFront := by decide +kernel
set_option maxHeartbeats 4000000 in
set_option maxRecDepth 100000 in
theorem c_X0_bringToFront (l : Launch) (D : va_G) (cy : Nat → ClassId) (sz : Nat) (h t : Nat) (L : List Int64) (f : Nat → Int64) (x : Int64) (hf : hC L f) (hL : L.length ≤ 6) : Met l yX0_bringToFront wsX0_bringToFront ({ frames := 1, cells := 0, slots := 0, locals := 30 } : Room) (va_Pc [.ref h, .long x] (gI D (gT cy) [(h, eCch t (nI L.length)), (t, eJ cy 6 f)] sz)) (va_Qv (fun u : (Nat → Int64) => (hC (brg L x) u)) (gO D (fun u : (Nat → Int64) => [(h, eCch t (nI (brg L x).length)), (t, eJ cy 6 u)]) (va_A [(h, eCch t (nI L.length)), (t, eJ cy 6 f)] sz)) (va_A [(h, eCch t (nI L.length)), (t, eJ cy 6 f)] sz)) 0 0 (va_A [(h, eCch t (nI L.length)), (t, eJ cy 6 f)] sz) := by
  refine gW_v (cc := cX0_bringToFront) (maxL := 5) (by decide) rfl (Nat.le_of_ble_eq_true rfl) ?_
  intro pp ee ss mm bw mt cd QQ AA ls hfx hP hG hD hA hret hl
  have hS : va_S AA ss.heap ss.heap [] := va_S.rf
  obtain ⟨H, eH⟩ : ∃ H, H = ss.heap := ⟨_, rfl⟩
  obtain ⟨locs, eL⟩ : ∃ L : List Loc, L = [] := ⟨_, rfl⟩
  have hP : va_P D vwCl [(h, eCch t (nI L.length)), (t, eJ cy 6 f)] H := by rw [eH]; exact hP
  have hS : va_S AA ss.heap H locs := by rw [eH, eL]; exact hS
  have goal : ∀ X Y, X = H → Y = locs → W pp l ee ({ frames := 1, cells := 0, slots := 0, locals := 30 } : Room) ss mm ([.ref h, .long x] : List Value).toArray bw mt cd X Y 0 0 QQ (F0 mm 0 ls []) → W pp l ee ({ frames := 1, cells := 0, slots := 0, locals := 30 } : Room) ss mm ([.ref h, .long x] : List Value).toArray bw mt cd ss.heap [] 0 0 QQ (F0 mm 0 ls []) := fun X Y hX hY h => by rw [hX, hY, eH, eL] at h; exact h
  refine goal H locs rfl rfl ?_
  clear goal eH eL
  obtain ⟨hx, hb, hml, hown, hts, hlocks⟩ := hfx
  have hown : ss.vm.findClass RX0 = some mm.cls := hown
  have hl : lv_has ls 5 [(0, .ref h), (1, .long x)] := hl
  have hz := ixF_le L x
  have hb9 := brg_len (L := L) (x := x) hL
  refine lv_aload_n hx hb dX0_bringToFront_0 rfl (lv_at hl 0 rfl) ?_
  refine lv_lload_n hx hb dX0_bringToFront_1 rfl (lv_at hl 1 rfl) ?_
  refine gc_Si (va_runV (As := [.long x]) (rest := []) ⟨hx, hb, hml, hown, hts⟩ (c_X0_placeOf l D cy h t L f x hf hL) (cwV 1 hts gX0_bringToFront_X0_placeOf rfl rfl rfl (by decide +kernel) ⟨Nat.le_of_ble_eq_true rfl, Nat.le_of_ble_eq_true rfl⟩) (gpVR (ci := 0) (q0 := 0) hG (hP.sub [0, 1] rfl) rfl rfl) rfl rfl hl.1 rfl (lv_room (Nat.le_of_ble_eq_true rfl)) dX0_bringToFront_2 ⟨Nat.zero_le _, Nat.zero_le _⟩) ?_
  refine lv_istore_n (lv' := [(3, .int (nI (ixF L x))), (0, .ref h), (1, .long x)]) hx hb dX0_bringToFront_5 rfl hl (by decide) rfl (fun ls hl => ?_)
  have join_33 : ∀ (k : Nat), (k = (brg L x).length) → ∀ (H : Heap) (locs : List Loc) (ls : Array Slot), va_P D vwCl [(h, eCch t (nI k)), (t, eJ cy 6 f)] H → va_D AA [(h, eCch t (nI k)), (t, eJ cy 6 f)] → va_S AA ss.heap H locs → lv_has ls 5 [(0, .ref h), (1, .long x), (3, .int (nI (ixF L x)))] → W pp l ee ({ frames := 1, cells := 0, slots := 0, locals := 30 } : Room) ss mm ([.ref h, .long x] : List Value).toArray bw mt cd H locs 0 0 QQ (F0 mm 33 ls []) := by
    intro k hk H locs ls hP hD hS hl
    subst hk
    refine lv_iload_n hx hb dX0_bringToFront_33 rfl (lv_at hl 2 rfl) ?_
    refine lv_iconst (v := nI 5) hx hb dX0_bringToFront_34 (by decide) ?_
    refine va_mmin hx hb (hml.trans hl.1.symm) hown (hts (.methodLink RX0 23 Lib.Math.min.name) (by decide +kernel)) (hts (.static Lib.Math.min.name) (by decide +kernel)) (hts (.initialized "java/lang/Math") (by decide +kernel)) (hts (.code Lib.Math.min.name Lib.Math.min.code 2 (some .int)) (by decide +kernel)) (Nat.le_of_ble_eq_true rfl) (Nat.le_of_ble_eq_true rfl) (Nat.le_of_ble_eq_true rfl) (Nat.le_of_ble_eq_true rfl) dX0_bringToFront_35 ?_
    refine g_ti (y := nI (min (ixF L x) 5)) (g_min (by omega) (by omega)) ?_
    refine lv_istore (lv' := [(4, .int (nI (min (ixF L x) 5))), (0, .ref h), (1, .long x), (3, .int (nI (ixF L x)))]) hx hb dX0_bringToFront_38 hl (by decide) rfl (fun ls hl => ?_)
    have loop_40 : ∀ (n9 : Nat) (j : Nat) (g : Nat → Int64), j < n9 → (j ≤ min (ixF L x) 5) → (∀ i, i ≤ 5 → g i = if j < i ∧ i ≤ min (ixF L x) 5 then f (i - 1) else f i) → ∀ (H : Heap) (locs : List Loc) (ls : Array Slot), va_P D vwCl [(h, eCch t (nI (brg L x).length)), (t, eJ cy 6 g)] H → va_D AA [(h, eCch t (nI (brg L x).length)), (t, eJ cy 6 g)] → va_S AA ss.heap H locs → lv_has ls 5 [(0, .ref h), (1, .long x), (3, .int (nI (ixF L x))), (4, .int (nI j))] → W pp l ee ({ frames := 1, cells := 0, slots := 0, locals := 30 } : Room) ss mm ([.ref h, .long x] : List Value).toArray bw mt cd H locs 0 0 QQ (F0 mm 40 ls []) := by
      intro n9
      induction n9 with
      | zero => intro j g h9; exact absurd h9 (Nat.not_lt_zero _)
      | succ n9 ih_40 =>
        intro j g hm_40 hj hg H locs ls hP hD hS hl
        refine lv_iload hx hb dX0_bringToFront_40 (lv_at hl 3 rfl) ?_
        refine lv_if_le (tgt := 67) hx hb dX0_bringToFront_42 (by decide) (fun c_42 => ?_) (fun c_42 => ?_)
        · skip
          have c_42 : j ≤ 0 := (nI_leI (a := j) (b := 0) (by omega) (by omega)).mp c_42
          refine lv_aload_n hx hb dX0_bringToFront_67 rfl (lv_at hl 0 rfl) ?_
          refine va_get (D := D) (ci := 0) (v := .ref t) (C := RX0) (T := TX0) (N := 2) hx hb hts iX0_bringToFront_X0 hown hG.1 hP 0 rfl rfl 0 (by decide) (hts (.fieldLink RX0 9 "DirtyTiles$Cache" "tiles" "[J") (by decide +kernel)) (fun _ h9 => h9) rfl dX0_bringToFront_68 ?_
          refine lv_iconst (v := nI 0) hx hb dX0_bringToFront_71 (by decide) ?_
          refine lv_lload_n hx hb dX0_bringToFront_72 rfl (lv_at hl 1 rfl) ?_
          refine g_last hx hb hG hP hD hS 1 1 rfl rfl (k := 0) (by omega) (by decide) dX0_bringToFront_73 (fun H locs hP hD hS => ?_)
          have hP : va_P D vwCl [(h, eCch t (nI (brg L x).length)), (t, eJ cy 6 (vp_updL g 0 x))] H := hP
          have hD : va_D AA [(h, eCch t (nI (brg L x).length)), (t, eJ cy 6 (vp_updL g 0 x))] := hD
          exact hret _ _ _ _ (vp_updL g 0 x) dX0_bringToFront_74 (brg_hC hf hL (fun i hi => by rw [hg i hi]; have : j = 0 := (by omega); rw [this])) (hP.sub [0, 1] rfl) (hD.sub [0, 1] (by decide) rfl) hS
        · skip
          have c_42 : ¬ j ≤ 0 := fun z => c_42 ((nI_leI (a := j) (b := 0) (by omega) (by omega)).mpr z)
          refine lv_aload_n hx hb dX0_bringToFront_45 rfl (lv_at hl 0 rfl) ?_
          refine va_get (D := D) (ci := 0) (v := .ref t) (C := RX0) (T := TX0) (N := 2) hx hb hts iX0_bringToFront_X0 hown hG.1 hP 0 rfl rfl 0 (by decide) (hts (.fieldLink RX0 9 "DirtyTiles$Cache" "tiles" "[J") (by decide +kernel)) (fun _ h9 => h9) rfl dX0_bringToFront_46 ?_
          refine lv_iload hx hb dX0_bringToFront_49 (lv_at hl 3 rfl) ?_
          refine lv_aload_n hx hb dX0_bringToFront_51 rfl (lv_at hl 0 rfl) ?_
          refine va_get (D := D) (ci := 0) (v := .ref t) (C := RX0) (T := TX0) (N := 2) hx hb hts iX0_bringToFront_X0 hown hG.1 hP 0 rfl rfl 0 (by decide) (hts (.fieldLink RX0 9 "DirtyTiles$Cache" "tiles" "[J") (by decide +kernel)) (fun _ h9 => h9) rfl dX0_bringToFront_52 ?_
          refine lv_iload hx hb dX0_bringToFront_55 (lv_at hl 3 rfl) ?_
          refine lv_iconst (v := nI 1) hx hb dX0_bringToFront_57 (by decide) ?_
          refine lv_isub hx hb dX0_bringToFront_58 ?_
          refine g_ti (y := nI (j - 1)) (pk_sub (by omega)) ?_
          refine g_lald hx hb hG hP 1 1 rfl rfl (k := j - 1) (by omega) (by decide) dX0_bringToFront_59 ?_
          refine g_last hx hb hG hP hD hS 1 1 rfl rfl (k := j) (by omega) (by decide) dX0_bringToFront_60 (fun H locs hP hD hS => ?_)
          have hP : va_P D vwCl [(h, eCch t (nI (brg L x).length)), (t, eJ cy 6 (vp_updL g j (g (j - 1))))] H := hP
          have hD : va_D AA [(h, eCch t (nI (brg L x).length)), (t, eJ cy 6 (vp_updL g j (g (j - 1))))] := hD
          refine lv_iinc (v := nI (j - 1)) (lv' := [(4, .int (nI (j - 1))), (0, .ref h), (1, .long x), (3, .int (nI (ixF L x)))]) hx hb dX0_bringToFront_61 hl (k := 3) rfl (g_dec (by omega)) (by decide) rfl (fun ls hl => ?_)
          refine lv_goto (tgt := 40) hx hb dX0_bringToFront_64 (by decide) ?_
          exact ih_40 (j - 1) (vp_updL g j (g (j - 1))) (by omega) (by omega) (brg_step hj (by omega) hg) _ _ _ (hP.sub [0, 1] rfl) (hD.sub [0, 1] (by decide) rfl) hS (lv_sub hl [1, 2, 3, 0] rfl)
    exact loop_40 (((min (ixF L x) 5)) + 1) (min (ixF L x) 5) f (Nat.lt_succ_self _) (Nat.le_refl _) (fun i hi => by rw [if_neg (by omega)]) _ _ _ (hP.sub [0, 1] rfl) (hD.sub [0, 1] (by decide) rfl) hS (lv_sub hl [1, 2, 3, 0] rfl)
  refine lv_iload_n hx hb dX0_bringToFront_6 rfl (lv_at hl 0 rfl) ?_
  refine lv_aload_n hx hb dX0_bringToFront_7 rfl (lv_at hl 1 rfl) ?_
  refine va_get (D := D) (ci := 0) (v := .int (nI L.length)) (C := RX0) (T := TX0) (N := 2) hx hb hts iX0_bringToFront_X0 hown hG.1 hP 0 rfl rfl 1 (by decide) (hts (.fieldLink RX0 15 "DirtyTiles$Cache" "count" "I") (by decide +kernel)) (fun _ h9 => h9) rfl dX0_bringToFront_8 ?_
  refine lv_icmp_ne (tgt := 33) hx hb dX0_bringToFront_11 (by decide) (fun c_11 => ?_) (fun c_11 => ?_)
  · skip
    have c_11 : ¬ (ixF L x) = L.length := fun z => c_11 ((nI_eq (a := (ixF L x)) (b := L.length) (by omega) (by omega)).mpr z)
    exact join_33 L.length (by rw [hb9]; split <;> omega) _ _ _ (hP.sub [0, 1] rfl) (hD.sub [0, 1] (by decide) rfl) hS (lv_sub hl [1, 2, 0] rfl)
  · skip
    have c_11 : (ixF L x) = L.length := (nI_eq (a := (ixF L x)) (b := L.length) (by omega) (by omega)).mp c_11
    refine lv_aload_n hx hb dX0_bringToFront_14 rfl (lv_at hl 1 rfl) ?_
    refine va_get (D := D) (ci := 0) (v := .int (nI L.length)) (C := RX0) (T := TX0) (N := 2) hx hb hts iX0_bringToFront_X0 hown hG.1 hP 0 rfl rfl 1 (by decide) (hts (.fieldLink RX0 15 "DirtyTiles$Cache" "count" "I") (by decide +kernel)) (fun _ h9 => h9) rfl dX0_bringToFront_15 ?_
    refine lv_bipush (v := nI 6) hx hb dX0_bringToFront_18 (by decide) ?_
    refine lv_icmp_ge (tgt := 33) hx hb dX0_bringToFront_20 (by decide) (fun c_20 => ?_) (fun c_20 => ?_)
    · skip
      have c_20 : 6 ≤ L.length := (nI_leI (a := 6) (b := L.length) (by omega) (by omega)).mp c_20
      exact join_33 L.length (by rw [hb9]; split <;> omega) _ _ _ (hP.sub [0, 1] rfl) (hD.sub [0, 1] (by decide) rfl) hS (lv_sub hl [1, 2, 0] rfl)
    · skip
      have c_20 : ¬ 6 ≤ L.length := fun z => c_20 ((nI_leI (a := 6) (b := L.length) (by omega) (by omega)).mpr z)
      refine lv_aload_n hx hb dX0_bringToFront_23 rfl (lv_at hl 1 rfl) ?_
      refine lv_dup hx hb dX0_bringToFront_24 rfl ?_
      refine va_get (D := D) (ci := 0) (v := .int (nI L.length)) (C := RX0) (T := TX0) (N := 2) hx hb hts iX0_bringToFront_X0 hown hG.1 hP 0 rfl rfl 1 (by decide) (hts (.fieldLink RX0 15 "DirtyTiles$Cache" "count" "I") (by decide +kernel)) (fun _ h9 => h9) rfl dX0_bringToFront_25 ?_
      refine lv_iconst (v := nI 1) hx hb dX0_bringToFront_28 (by decide) ?_
      refine lv_iadd hx hb dX0_bringToFront_29 ?_
      refine g_ti (y := nI (L.length + 1)) (nI_add _ _) ?_
      refine va_put (D := D) (ci := 0) (v := .int (nI (L.length + 1))) (ty := .int) (C := RX0) (T := TX0) (N := 2) hx hb hts iX0_bringToFront_X0 tyX0 tyX0_ok nmX0 hown hG.1 hP hD hS 0 rfl rfl 1 (by decide) (hts (.fieldLink RX0 15 "DirtyTiles$Cache" "count" "I") (by decide +kernel)) (fun _ h9 => h9) rfl (by decide +kernel) rfl rfl (Nat.le_of_ble_eq_true rfl) dX0_bringToFront_30 (fun H locs hP hD hS => ?_)
      have hP : va_P D vwCl [(h, eCch t (nI (L.length + 1))), (t, eJ cy 6 f)] H := hP
      have hD : va_D AA [(h, eCch t (nI (L.length + 1))), (t, eJ cy 6 f)] := hD
      exact join_33 (L.length + 1) (by rw [hb9]; split <;> omega) _ _ _ (hP.sub [0, 1] rfl) (hD.sub [0, 1] (by decide) rfl) hS (lv_sub hl [1, 2, 0] rfl)
theorem iX0_hasSameTilesAs_X0 : ∀ w ∈ wsX00, w ∈ wsX0_hasSameTilesAs := by decide +kernel
set_option maxHeartbeats 4000000 in
set_option maxRecDepth 100000 in
theorem c_X0_hasSameTilesAs (l : Launch) (D : va_G) (cy : Nat → ClassId) (h t : Nat) (L : List Int64) (f : Nat → Int64) (h2 t2 : Nat) (K : List Int64) (g : Nat → Int64) (hf : hC L f) (hL : L.length ≤ 6) (hg : hC K g) (hK : K.length ≤ 6) : Met l yX0_hasSameTilesAs wsX0_hasSameTilesAs ({ frames := 0, cells := 0, slots := 0, locals := 0 } : Room) (va_Pc [.ref h, .ref h2] (gR D (gT cy) [(h, eCch t (nI L.length)), (t, eJ cy 6 f), (h2, eCch t2 (nI K.length)), (t2, eJ cy 6 g)])) (vp_Si (fun r9 => r9 = gb (L = K))) 0 0 (fun _ => False) := by
  refine gM_i (cc := cX0_hasSameTilesAs) (maxL := 3) (ty := .boolean) (by decide) rfl (Nat.le_of_ble_eq_true rfl) (fun v hv => by rw [hv]; first | rfl | exact gb_nar _) ?_
  intro pp ee ss mm bw mt cd QQ ls hfx hP hG hret hl
  obtain ⟨hx, hb, hml, hown, hts, hlocks⟩ := hfx
  have hown : ss.vm.findClass RX0 = some mm.cls := hown
  have hl : lv_has ls 3 [(0, .ref h), (1, .ref h2)] := hl
  refine lv_aload_n hx hb dX0_hasSameTilesAs_0 rfl (lv_at hl 0 rfl) ?_
  refine va_get (D := D) (ci := 0) (v := .int (nI L.length)) (C := RX0) (T := TX0) (N := 2) hx hb hts iX0_hasSameTilesAs_X0 hown hG.1 hP 0 rfl rfl 1 (by decide) (hts (.fieldLink RX0 15 "DirtyTiles$Cache" "count" "I") (by decide +kernel)) (fun _ h9 => h9) rfl dX0_hasSameTilesAs_1 ?_
  refine lv_aload_n hx hb dX0_hasSameTilesAs_4 rfl (lv_at hl 1 rfl) ?_
  refine va_get (D := D) (ci := 0) (v := .int (nI K.length)) (C := RX0) (T := TX0) (N := 2) hx hb hts iX0_hasSameTilesAs_X0 hown hG.1 hP 2 rfl rfl 1 (by decide) (hts (.fieldLink RX0 15 "DirtyTiles$Cache" "count" "I") (by decide +kernel)) (fun _ h9 => h9) rfl dX0_hasSameTilesAs_5 ?_
  refine lv_icmp_eq (tgt := 13) hx hb dX0_hasSameTilesAs_8 (by decide) (fun c_8 => ?_) (fun c_8 => ?_)
  · skip
    have c_8 : L.length = K.length := (nI_eq (a := L.length) (b := K.length) (by omega) (by omega)).mp c_8
    refine lv_iconst (v := nI 0) hx hb dX0_hasSameTilesAs_13 (by decide) ?_
    refine lv_istore_n (lv' := [(2, .int (nI 0)), (0, .ref h), (1, .ref h2)]) hx hb dX0_hasSameTilesAs_14 rfl hl (by decide) rfl (fun ls hl => ?_)
    have loop_15 : ∀ (n9 : Nat) (i : Nat), L.length - i < n9 → (i ≤ L.length) → (∀ j, j < i → f j = g j) → ∀ (ls : Array Slot), lv_has ls 3 [(0, .ref h), (1, .ref h2), (2, .int (nI i))] → W pp l ee ({ frames := 0, cells := 0, slots := 0, locals := 0 } : Room) ss mm ([.ref h, .ref h2] : List Value).toArray bw mt cd ss.heap [] 0 0 QQ (F0 mm 15 ls []) := by
      intro n9
      induction n9 with
      | zero => intro i h9; exact absurd h9 (Nat.not_lt_zero _)
      | succ n9 ih_15 =>
        intro i hm_15 hi hs ls hl
        refine lv_iload_n hx hb dX0_hasSameTilesAs_15 rfl (lv_at hl 2 rfl) ?_
        refine lv_aload_n hx hb dX0_hasSameTilesAs_16 rfl (lv_at hl 0 rfl) ?_
        refine va_get (D := D) (ci := 0) (v := .int (nI L.length)) (C := RX0) (T := TX0) (N := 2) hx hb hts iX0_hasSameTilesAs_X0 hown hG.1 hP 0 rfl rfl 1 (by decide) (hts (.fieldLink RX0 15 "DirtyTiles$Cache" "count" "I") (by decide +kernel)) (fun _ h9 => h9) rfl dX0_hasSameTilesAs_17 ?_
        refine lv_icmp_ge (tgt := 47) hx hb dX0_hasSameTilesAs_20 (by decide) (fun c_20 => ?_) (fun c_20 => ?_)
        · skip
          have c_20 : L.length ≤ i := (nI_leI (a := L.length) (b := i) (by omega) (by omega)).mp c_20
          refine lv_iconst (v := nI 1) hx hb dX0_hasSameTilesAs_47 (by decide) ?_
          exact hret _ _ _ dX0_hasSameTilesAs_48 ((gb_t (hC_eq hf hg c_8 (fun j hj => hs j (by omega)))).symm)
        · skip
          have c_20 : ¬ L.length ≤ i := fun z => c_20 ((nI_leI (a := L.length) (b := i) (by omega) (by omega)).mpr z)
          refine lv_aload_n hx hb dX0_hasSameTilesAs_23 rfl (lv_at hl 0 rfl) ?_
          refine va_get (D := D) (ci := 0) (v := .ref t) (C := RX0) (T := TX0) (N := 2) hx hb hts iX0_hasSameTilesAs_X0 hown hG.1 hP 0 rfl rfl 0 (by decide) (hts (.fieldLink RX0 9 "DirtyTiles$Cache" "tiles" "[J") (by decide +kernel)) (fun _ h9 => h9) rfl dX0_hasSameTilesAs_24 ?_
          refine lv_iload_n hx hb dX0_hasSameTilesAs_27 rfl (lv_at hl 2 rfl) ?_
          refine g_lald hx hb hG hP 1 1 rfl rfl (k := i) (by omega) (by decide) dX0_hasSameTilesAs_28 ?_
          refine lv_aload_n hx hb dX0_hasSameTilesAs_29 rfl (lv_at hl 1 rfl) ?_
          refine va_get (D := D) (ci := 0) (v := .ref t2) (C := RX0) (T := TX0) (N := 2) hx hb hts iX0_hasSameTilesAs_X0 hown hG.1 hP 2 rfl rfl 0 (by decide) (hts (.fieldLink RX0 9 "DirtyTiles$Cache" "tiles" "[J") (by decide +kernel)) (fun _ h9 => h9) rfl dX0_hasSameTilesAs_30 ?_
          refine lv_iload_n hx hb dX0_hasSameTilesAs_33 rfl (lv_at hl 2 rfl) ?_
          refine g_lald hx hb hG hP 3 1 rfl rfl (k := i) (by omega) (by decide) dX0_hasSameTilesAs_34 ?_
          refine W.lcmp hx hb dX0_hasSameTilesAs_35 ?_
          refine lv_if_eq (tgt := 41) hx hb dX0_hasSameTilesAs_36 (by decide) (fun c_36 => ?_) (fun c_36 => ?_)
          · skip
            have c_36 : f i = g i := g_cmp0.mp c_36
            refine lv_iinc (v := nI (i + 1)) (lv' := [(2, .int (nI (i + 1))), (0, .ref h), (1, .ref h2)]) hx hb dX0_hasSameTilesAs_41 hl (k := 2) rfl (nI_1 _) (by decide) rfl (fun ls hl => ?_)
            refine lv_goto (tgt := 15) hx hb dX0_hasSameTilesAs_44 (by decide) ?_
            exact ih_15 (i + 1) (by omega) (by omega) (lt_s hs c_36) _ (lv_sub hl [1, 2, 0] rfl)
          · skip
            have c_36 : ¬ f i = g i := fun z => c_36 (g_cmp0.mpr z)
            refine lv_iconst (v := nI 0) hx hb dX0_hasSameTilesAs_39 (by decide) ?_
            exact hret _ _ _ dX0_hasSameTilesAs_40 ((gb_f (hC_ne hf hg (by omega) c_36)).symm)
    exact loop_15 ((L.length - 0) + 1) 0 (Nat.lt_succ_self _) (by omega) (fun j hj => absurd hj (Nat.not_lt_zero j)) _ (lv_sub hl [1, 2, 0] rfl)
  · skip
    have c_8 : ¬ L.length = K.length := fun z => c_8 ((nI_eq (a := L.length) (b := K.length) (by omega) (by omega)).mpr z)
    refine lv_iconst (v := nI 0) hx hb dX0_hasSameTilesAs_11 (by decide) ?_
    exact hret _ _ _ dX0_hasSameTilesAs_12 ((gb_f (fun e => c_8 (by rw [e]))).symm)
end
section
/-! the class: colours, runs, ways -/
/-! Integer.bitCount below 65536, by trying all -/
def bc1 (n : Nat) : Nat := Nat.sub n (Nat.land (Nat.div n 2) 1431655765)
def bc2 (n : Nat) : Nat := Nat.add (Nat.land n 858993459) (Nat.land (Nat.div n 4) 858993459)
def bc3 (n : Nat) : Nat := Nat.land (Nat.add n (Nat.div n 16)) 252645135
def bc4 (n : Nat) : Nat := Nat.add n (Nat.div n 256)
def bc5 (n : Nat) : Nat := Nat.add n (Nat.div n 65536)
def bcF (n : Nat) : Nat := Nat.land (bc5 (bc4 (bc3 (bc2 (bc1 n))))) 63
noncomputable def bcK (k : Nat) : Nat → Nat → Bool := Nat.rec (motive := fun _ => Nat → Nat → Bool) (fun b q => Nat.beq (bcF b) q) (fun _ ih b q => and (ih (Nat.mul 2 b) q) (ih (Nat.succ (Nat.mul 2 b)) (Nat.succ q))) k
theorem bcK_ok : bcK 16 0 0 = true := by decide +kernel
theorem bcK_use : ∀ (k b q : Nat), bcK k b q = true → ∀ n, n / 2 ^ k = b → bcF n = q + fb_ct (fun c => n.testBit c) k
  | 0, b, q, h, n, hn => by
    have h1 : Nat.beq (bcF b) q = true := h
    have h2 : n = b := by rw [Nat.pow_zero, Nat.div_one] at hn; exact hn
    rw [h2]
    exact Nat.eq_of_beq_eq_true h1
  | k + 1, b, q, h, n, hn => by
    have h1 : and (bcK k (2 * b) q) (bcK k (2 * b + 1) (q + 1)) = true := h
    rw [Bool.and_eq_true] at h1
    have hd : n / 2 ^ k / 2 = b := by rw [Nat.div_div_eq_div_mul, ← Nat.pow_succ]; exact hn
    have hb : n.testBit k = decide (n / 2 ^ k % 2 = 1) := Nat.testBit_eq_decide_div_mod_eq
    rw [fb_ct_succ]
    rcases Nat.mod_two_eq_zero_or_one (n / 2 ^ k) with e | e
    · rw [bcK_use k (2 * b) q h1.1 n (by omega), hb, e]; rfl
    · rw [bcK_use k (2 * b + 1) (q + 1) h1.2 n (by omega), hb, e]
      simp only [decide_true, if_true]
      omega
def popN (n : Nat) : Nat := fb_ct (fun c => n.testBit c) 16
theorem bc_pop {n : Nat} (h : n < 65536) : bcF n = popN n := by
  have := bcK_use 16 0 0 bcK_ok n (Nat.div_eq_of_lt h)
  rw [this, Nat.zero_add]; rfl
theorem popN_le (n : Nat) : popN n ≤ 16 := fb_ct_le _ _
theorem popN_or {n c : Nat} (hc : c < 16) : popN (n ||| 2 ^ c) = popN n + if n.testBit c then 0 else 1 := by
  have h := fb_ct_upd (fun k => n.testBit k) true hc
  have e : (fun k => if k = c then true else n.testBit k) = fun k => (n ||| 2 ^ c).testBit k := by
    funext k
    rw [fb_bit_set]
    by_cases hk : k = c
    · rw [if_pos hk, decide_eq_true hk, Bool.or_true]
    · rw [if_neg hk, decide_eq_false hk, Bool.or_false]
  rw [e] at h
  unfold popN
  by_cases ht : n.testBit c = true
  · simp only [ht, if_true] at h ⊢; omega
  · have ht' : n.testBit c = false := by simpa using ht
    simp only [ht', if_true] at h ⊢
    simp at h ⊢
    omega
/-- the colours that the first i cells of a tile have, as a set of bits -/
def metN (x : Int64) : Nat → Nat
  | 0 => 0
  | i + 1 => metN x i ||| 2 ^ cel x i
theorem metN_lt (x : Int64) : ∀ i, metN x i < 65536
  | 0 => show (0 : Nat) < 65536 by decide
  | i + 1 => by
    have h1 : metN x i < 2 ^ 16 := metN_lt x i
    have h2 : 2 ^ cel x i < 2 ^ 16 := Nat.pow_lt_pow_right (by decide) (cel_lt x i)
    exact Nat.or_lt_two_pow h1 h2
def nCol (x : Int64) : Nat := popN (metN x 16)
theorem nCol_le (x : Int64) : nCol x ≤ 16 := popN_le _
def runF (x : Int64) : Nat → Nat
  | 0 => 1
  | i + 1 => runF x i + if cel x (i + 1) = cel x i then 0 else 1
theorem runF_le (x : Int64) : ∀ i, runF x i ≤ i + 1
  | 0 => Nat.le_refl _
  | i + 1 => by have := runF_le x i; unfold runF; split <;> omega
def nRun (x : Int64) : Nat := runF x 15
theorem nRun_le (x : Int64) : nRun x ≤ 16 := runF_le x 15
/-- in how many cells two tiles differ -/
def difF (x y : Int64) : Nat → Nat
  | 0 => 0
  | i + 1 => difF x y i + if cel x i = cel y i then 0 else 1
theorem difF_le (x y : Int64) : ∀ i, difF x y i ≤ i
  | 0 => Nat.le_refl _
  | i + 1 => by have := difF_le x y i; unfold difF; split <;> omega
def nDif (x y : Int64) : Nat := difF x y 16
theorem nDif_le (x y : Int64) : nDif x y ≤ 16 := difF_le x y 16
def ubc (n : Nat) : Nat := if n = 2 then 10 else if n = 3 then 15 else if n = 4 then 16 else 99
/-- the units of a tile in each of the ways, 99 where it can't be -/
def unW (L : List Int64) (x : Int64) : Nat → Nat
  | 0 => if ixF L x < L.length then 2 else 99
  | 1 => if nCol x = 1 then 3 else 99
  | 2 => ubc (nCol x)
  | 3 => 1 + 2 * nRun x
  | _ => 17
theorem unW_le (L : List Int64) (x : Int64) (c : Nat) : unW L x c ≤ 99 := by
  have := nRun_le x
  match c with
  | 0 => show (if _ then _ else _) ≤ 99; split <;> omega
  | 1 => show (if _ then _ else _) ≤ 99; split <;> omega
  | 2 => show ubc _ ≤ 99; unfold ubc; repeat' split
         all_goals omega
  | 3 => show 1 + 2 * nRun x ≤ 99; omega
  | n + 4 => show 17 ≤ 99; omega
def cwF (u : Nat → Nat) : Nat → Nat × Nat
  | 0 => (0, 99)
  | i + 1 => if u i < (cwF u i).2 then (i, u i) else cwF u i
theorem cwF_le (u : Nat → Nat) : ∀ i, (cwF u i).1 ≤ i ∧ (cwF u i).2 ≤ 99
  | 0 => ⟨Nat.le_refl _, Nat.le_refl _⟩
  | i + 1 => by
    have h := cwF_le u i
    unfold cwF
    split
    · exact ⟨Nat.le_succ i, by show u i ≤ 99; omega⟩
    · exact ⟨by omega, h.2⟩
theorem cwF_t {u : Nat → Nat} {i w b : Nat} (h : (w, b) = cwF u i) (hc : u i < b) : (i, u i) = cwF u (i + 1) := by
  show _ = if u i < (cwF u i).2 then (i, u i) else cwF u i
  rw [← h, if_pos hc]
theorem cwF_f {u : Nat → Nat} {i w b : Nat} (h : (w, b) = cwF u i) (hc : ¬ u i < b) : (w, b) = cwF u (i + 1) := by
  show _ = if u i < (cwF u i).2 then (i, u i) else cwF u i
  rw [← h, if_neg hc]
/-- 100 times the way plus its units -/
def wayO (L : List Int64) (x : Int64) : Nat := 100 * (cwF (unW L x) 5).1 + (cwF (unW L x) 5).2
theorem lt_ret {a b : Nat} (h : a = b) : nI a = nI b := by rw [h]
theorem bc_bnd {n : Nat} (hn : n < 65536) : bc1 n < 2 ^ 16 ∧ bc2 (bc1 n) < 2 ^ 18 ∧ bc3 (bc2 (bc1 n)) < 2 ^ 20 ∧ bc4 (bc3 (bc2 (bc1 n))) < 2 ^ 22 ∧ n / 2 &&& 1431655765 ≤ n := by
  have h1 : bc1 n ≤ n := Nat.sub_le _ _
  have h2 : bc2 (bc1 n) ≤ bc1 n + bc1 n / 4 := Nat.add_le_add (Nat.and_le_left) (Nat.and_le_left)
  have h3 : bc3 (bc2 (bc1 n)) ≤ bc2 (bc1 n) + bc2 (bc1 n) / 16 := Nat.and_le_left
  have h4 : bc4 (bc3 (bc2 (bc1 n))) = bc3 (bc2 (bc1 n)) + bc3 (bc2 (bc1 n)) / 256 := rfl
  have h5 : n / 2 &&& 1431655765 ≤ n / 2 := Nat.and_le_left
  refine ⟨by omega, by omega, by omega, by omega, by omega⟩
set_option maxHeartbeats 4000000 in
set_option maxRecDepth 100000 in
theorem c_J6_bitCount_0f7a4 (l : Launch) (D : va_G) (cy : Nat → ClassId) (n : Nat) (hn : n < 65536) : Met l yJ6_bitCount_0f7a4 wsJ6_bitCount_0f7a4 ({ frames := 0, cells := 0, slots := 0, locals := 0 } : Room) (va_Pc [.int (nI n)] (gR D (gT cy) [])) (vp_Si (fun r9 => r9 = nI (popN n))) 0 0 (fun _ => False) := by
  refine gM_i (cc := cJ6_bitCount_0f7a4) (maxL := 1) (ty := .int) (by decide) rfl (Nat.le_of_ble_eq_true rfl) (fun v hv => by rw [hv]; first | rfl | exact gb_nar _) ?_
  intro pp ee ss mm bw mt cd QQ ls hfx hP hG hret hl
  obtain ⟨hx, hb, hml, hown, hts, hlocks⟩ := hfx
  have hown : ss.vm.findClass RJ6 = some mm.cls := hown
  have hl : lv_has ls 1 [(0, .int (nI n))] := hl
  obtain ⟨q1, q2, q3, q4, q5⟩ := bc_bnd hn
  refine lv_iload_n hx hb dJ6_bitCount_0f7a4_0 rfl (lv_at hl 0 rfl) ?_
  refine lv_iload_n hx hb dJ6_bitCount_0f7a4_1 rfl (lv_at hl 0 rfl) ?_
  refine lv_iconst (v := nI 1) hx hb dJ6_bitCount_0f7a4_2 (by decide) ?_
  refine lv_iushr hx hb dJ6_bitCount_0f7a4_3 rfl ?_
  refine g_ti (y := nI (n / 2)) (pk_ushrN (by omega) (nI 1) 1 (by decide)) ?_
  refine lv_ldcw (v := (1431655765)) hx hb hown (hts (.constant RJ6 265 (1431655765)) (by decide +kernel)) dJ6_bitCount_0f7a4_4 ?_
  refine lv_iand hx hb dJ6_bitCount_0f7a4_7 ?_
  refine g_ti (y := nI (n / 2 &&& 1431655765)) (fa_and _ _) ?_
  refine lv_isub hx hb dJ6_bitCount_0f7a4_8 ?_
  refine g_ti (y := nI (bc1 n)) (pk_sub q5) ?_
  refine lv_istore_n (lv' := [(0, .int (nI (bc1 n)))]) hx hb dJ6_bitCount_0f7a4_9 rfl hl (by decide) rfl (fun ls hl => ?_)
  refine lv_iload_n hx hb dJ6_bitCount_0f7a4_10 rfl (lv_at hl 0 rfl) ?_
  refine lv_ldcw (v := (858993459)) hx hb hown (hts (.constant RJ6 266 (858993459)) (by decide +kernel)) dJ6_bitCount_0f7a4_11 ?_
  refine lv_iand hx hb dJ6_bitCount_0f7a4_14 ?_
  refine g_ti (y := nI (bc1 n &&& 858993459)) (fa_and _ _) ?_
  refine lv_iload_n hx hb dJ6_bitCount_0f7a4_15 rfl (lv_at hl 0 rfl) ?_
  refine lv_iconst (v := nI 2) hx hb dJ6_bitCount_0f7a4_16 (by decide) ?_
  refine lv_iushr hx hb dJ6_bitCount_0f7a4_17 rfl ?_
  refine g_ti (y := nI (bc1 n / 4)) (pk_ushrN (by omega) (nI 2) 2 (by decide)) ?_
  refine lv_ldcw (v := (858993459)) hx hb hown (hts (.constant RJ6 266 (858993459)) (by decide +kernel)) dJ6_bitCount_0f7a4_18 ?_
  refine lv_iand hx hb dJ6_bitCount_0f7a4_21 ?_
  refine g_ti (y := nI (bc1 n / 4 &&& 858993459)) (fa_and _ _) ?_
  refine lv_iadd hx hb dJ6_bitCount_0f7a4_22 ?_
  refine g_ti (y := nI (bc2 (bc1 n))) (nI_add _ _) ?_
  refine lv_istore_n (lv' := [(0, .int (nI (bc2 (bc1 n))))]) hx hb dJ6_bitCount_0f7a4_23 rfl hl (by decide) rfl (fun ls hl => ?_)
  refine lv_iload_n hx hb dJ6_bitCount_0f7a4_24 rfl (lv_at hl 0 rfl) ?_
  refine lv_iload_n hx hb dJ6_bitCount_0f7a4_25 rfl (lv_at hl 0 rfl) ?_
  refine lv_iconst (v := nI 4) hx hb dJ6_bitCount_0f7a4_26 (by decide) ?_
  refine lv_iushr hx hb dJ6_bitCount_0f7a4_27 rfl ?_
  refine g_ti (y := nI (bc2 (bc1 n) / 16)) (pk_ushrN (by omega) (nI 4) 4 (by decide)) ?_
  refine lv_iadd hx hb dJ6_bitCount_0f7a4_28 ?_
  refine g_ti (y := nI (bc2 (bc1 n) + bc2 (bc1 n) / 16)) (nI_add _ _) ?_
  refine lv_ldcw (v := (252645135)) hx hb hown (hts (.constant RJ6 267 (252645135)) (by decide +kernel)) dJ6_bitCount_0f7a4_29 ?_
  refine lv_iand hx hb dJ6_bitCount_0f7a4_32 ?_
  refine g_ti (y := nI (bc3 (bc2 (bc1 n)))) (fa_and _ _) ?_
  refine lv_istore_n (lv' := [(0, .int (nI (bc3 (bc2 (bc1 n)))))]) hx hb dJ6_bitCount_0f7a4_33 rfl hl (by decide) rfl (fun ls hl => ?_)
  refine lv_iload_n hx hb dJ6_bitCount_0f7a4_34 rfl (lv_at hl 0 rfl) ?_
  refine lv_iload_n hx hb dJ6_bitCount_0f7a4_35 rfl (lv_at hl 0 rfl) ?_
  refine lv_bipush (v := nI 8) hx hb dJ6_bitCount_0f7a4_36 (by decide) ?_
  refine lv_iushr hx hb dJ6_bitCount_0f7a4_38 rfl ?_
  refine g_ti (y := nI (bc3 (bc2 (bc1 n)) / 256)) (pk_ushrN (by omega) (nI 8) 8 (by decide)) ?_
  refine lv_iadd hx hb dJ6_bitCount_0f7a4_39 ?_
  refine g_ti (y := nI (bc4 (bc3 (bc2 (bc1 n))))) (nI_add _ _) ?_
  refine lv_istore_n (lv' := [(0, .int (nI (bc4 (bc3 (bc2 (bc1 n))))))]) hx hb dJ6_bitCount_0f7a4_40 rfl hl (by decide) rfl (fun ls hl => ?_)
  refine lv_iload_n hx hb dJ6_bitCount_0f7a4_41 rfl (lv_at hl 0 rfl) ?_
  refine lv_iload_n hx hb dJ6_bitCount_0f7a4_42 rfl (lv_at hl 0 rfl) ?_
  refine lv_bipush (v := nI 16) hx hb dJ6_bitCount_0f7a4_43 (by decide) ?_
  refine lv_iushr hx hb dJ6_bitCount_0f7a4_45 rfl ?_
  refine g_ti (y := nI (bc4 (bc3 (bc2 (bc1 n))) / 65536)) (pk_ushrN (by omega) (nI 16) 16 (by decide)) ?_
  refine lv_iadd hx hb dJ6_bitCount_0f7a4_46 ?_
  refine g_ti (y := nI (bc5 (bc4 (bc3 (bc2 (bc1 n)))))) (nI_add _ _) ?_
  refine lv_istore_n (lv' := [(0, .int (nI (bc5 (bc4 (bc3 (bc2 (bc1 n)))))))]) hx hb dJ6_bitCount_0f7a4_47 rfl hl (by decide) rfl (fun ls hl => ?_)
  refine lv_iload_n hx hb dJ6_bitCount_0f7a4_48 rfl (lv_at hl 0 rfl) ?_
  refine lv_bipush (v := nI 63) hx hb dJ6_bitCount_0f7a4_49 (by decide) ?_
  refine lv_iand hx hb dJ6_bitCount_0f7a4_51 ?_
  refine g_ti (y := nI (bcF n)) (fa_and _ _) ?_
  exact hret _ _ _ dJ6_bitCount_0f7a4_52 (lt_ret (bc_pop hn))
set_option maxHeartbeats 4000000 in
set_option maxRecDepth 100000 in
theorem c_X3_countColours (l : Launch) (D : va_G) (cy : Nat → ClassId) (x : Int64)  : Met l yX3_countColours wsX3_countColours ({ frames := 1, cells := 0, slots := 0, locals := 22 } : Room) (va_Pc [.long x] (gR D (gT cy) [])) (vp_Si (fun r9 => r9 = nI (nCol x))) 0 0 (fun _ => False) := by
  refine gM_i (cc := cX3_countColours) (maxL := 4) (ty := .int) (by decide) rfl (Nat.le_of_ble_eq_true rfl) (fun v hv => by rw [hv]; first | rfl | exact gb_nar _) ?_
  intro pp ee ss mm bw mt cd QQ ls hfx hP hG hret hl
  obtain ⟨hx, hb, hml, hown, hts, hlocks⟩ := hfx
  have hown : ss.vm.findClass RX3 = some mm.cls := hown
  have hl : lv_has ls 4 [(0, .long x)] := hl
  refine lv_iconst (v := nI 0) hx hb dX3_countColours_0 (by decide) ?_
  refine lv_istore_n (lv' := [(2, .int (nI 0)), (0, .long x)]) hx hb dX3_countColours_1 rfl hl (by decide) rfl (fun ls hl => ?_)
  refine lv_iconst (v := nI 0) hx hb dX3_countColours_2 (by decide) ?_
  refine lv_istore_n (lv' := [(3, .int (nI 0)), (2, .int (nI 0)), (0, .long x)]) hx hb dX3_countColours_3 rfl hl (by decide) rfl (fun ls hl => ?_)
  have loop_4 : ∀ (n9 : Nat) (i : Nat), 16 - i < n9 → (i ≤ 16) → ∀ (ls : Array Slot), lv_has ls 4 [(0, .long x), (2, .int (nI (metN x i))), (3, .int (nI i))] → W pp l ee ({ frames := 1, cells := 0, slots := 0, locals := 22 } : Room) ss mm ([.long x] : List Value).toArray bw mt cd ss.heap [] 0 0 QQ (F0 mm 4 ls []) := by
    intro n9
    induction n9 with
    | zero => intro i h9; exact absurd h9 (Nat.not_lt_zero _)
    | succ n9 ih_4 =>
      intro i hm_4 hi ls hl
      refine lv_iload_n hx hb dX3_countColours_4 rfl (lv_at hl 2 rfl) ?_
      refine lv_bipush (v := nI 16) hx hb dX3_countColours_5 (by decide) ?_
      refine lv_icmp_ge (tgt := 26) hx hb dX3_countColours_7 (by decide) (fun c_7 => ?_) (fun c_7 => ?_)
      · skip
        have c_7 : 16 ≤ i := (nI_leI (a := 16) (b := i) (by omega) (by omega)).mp c_7
        have e9 : i = 16 := by omega
        refine lv_iload_n hx hb dX3_countColours_26 rfl (lv_at hl 1 rfl) ?_
        refine g_ti (y := nI (metN x 16)) (by rw [e9]) ?_
        refine gc_Si (va_runS (As := [.int (nI (metN x 16))]) (rest := []) ⟨hx, hb, hml, hown, hts⟩ (c_J6_bitCount_0f7a4 l D cy (metN x 16) (metN_lt x 16)) (va_cwS 1 hts gX3_countColours_J6_bitCount_0f7a4 rfl rfl rfl (by decide +kernel) ⟨Nat.le_of_ble_eq_true rfl, Nat.le_of_ble_eq_true rfl⟩) (gpSR hG (hP.sub [] rfl)) rfl rfl hl.1 rfl (lv_room (Nat.le_of_ble_eq_true rfl)) dX3_countColours_27 ⟨Nat.zero_le _, Nat.zero_le _⟩) ?_
        exact hret _ _ _ dX3_countColours_30 rfl
      · skip
        have c_7 : ¬ 16 ≤ i := fun z => c_7 ((nI_leI (a := 16) (b := i) (by omega) (by omega)).mpr z)
        refine lv_iload_n hx hb dX3_countColours_10 rfl (lv_at hl 1 rfl) ?_
        refine lv_iconst (v := nI 1) hx hb dX3_countColours_11 (by decide) ?_
        refine lv_lload_n hx hb dX3_countColours_12 rfl (lv_at hl 0 rfl) ?_
        refine lv_iload_n hx hb dX3_countColours_13 rfl (lv_at hl 2 rfl) ?_
        refine gc_Si (va_runS (As := [.long x, .int (nI i)]) (rest := [.int (nI 1), .int (nI (metN x i))]) ⟨hx, hb, hml, hown, hts⟩ (c_X3_cellAt l D cy x i (by omega)) (va_cwS 2 hts gX3_countColours_X3_cellAt rfl rfl rfl (by decide +kernel) ⟨Nat.le_of_ble_eq_true rfl, Nat.le_of_ble_eq_true rfl⟩) (gpSR hG (hP.sub [] rfl)) rfl rfl hl.1 rfl (lv_room (Nat.le_of_ble_eq_true rfl)) dX3_countColours_14 ⟨Nat.zero_le _, Nat.zero_le _⟩) ?_
        refine lv_ishl hx hb dX3_countColours_17 ?_
        refine g_ti (y := nI (2 ^ cel x i)) (g_shl1 _ (cel_lt x i)) ?_
        refine lv_ior hx hb dX3_countColours_18 ?_
        refine g_ti (y := nI (metN x (i + 1))) (fa_or _ _) ?_
        refine lv_istore_n (lv' := [(2, .int (nI (metN x (i + 1)))), (0, .long x), (3, .int (nI i))]) hx hb dX3_countColours_19 rfl hl (by decide) rfl (fun ls hl => ?_)
        refine lv_iinc (v := nI (i + 1)) (lv' := [(3, .int (nI (i + 1))), (2, .int (nI (metN x (i + 1)))), (0, .long x)]) hx hb dX3_countColours_20 hl (k := 2) rfl (nI_1 _) (by decide) rfl (fun ls hl => ?_)
        refine lv_goto (tgt := 4) hx hb dX3_countColours_23 (by decide) ?_
        exact ih_4 (i + 1) (by omega) (by omega) _ (lv_sub hl [2, 1, 0] rfl)
  exact loop_4 ((16 - 0) + 1) 0 (Nat.lt_succ_self _) (by omega) _ (lv_sub hl [2, 1, 0] rfl)
set_option maxHeartbeats 4000000 in
set_option maxRecDepth 100000 in
theorem c_X3_countRuns (l : Launch) (D : va_G) (cy : Nat → ClassId) (x : Int64)  : Met l yX3_countRuns wsX3_countRuns ({ frames := 1, cells := 0, slots := 0, locals := 22 } : Room) (va_Pc [.long x] (gR D (gT cy) [])) (vp_Si (fun r9 => r9 = nI (nRun x))) 0 0 (fun _ => False) := by
  refine gM_i (cc := cX3_countRuns) (maxL := 4) (ty := .int) (by decide) rfl (Nat.le_of_ble_eq_true rfl) (fun v hv => by rw [hv]; first | rfl | exact gb_nar _) ?_
  intro pp ee ss mm bw mt cd QQ ls hfx hP hG hret hl
  obtain ⟨hx, hb, hml, hown, hts, hlocks⟩ := hfx
  have hown : ss.vm.findClass RX3 = some mm.cls := hown
  have hl : lv_has ls 4 [(0, .long x)] := hl
  refine lv_iconst (v := nI 1) hx hb dX3_countRuns_0 (by decide) ?_
  refine lv_istore_n (lv' := [(2, .int (nI 1)), (0, .long x)]) hx hb dX3_countRuns_1 rfl hl (by decide) rfl (fun ls hl => ?_)
  refine lv_iconst (v := nI 1) hx hb dX3_countRuns_2 (by decide) ?_
  refine lv_istore_n (lv' := [(3, .int (nI 1)), (2, .int (nI 1)), (0, .long x)]) hx hb dX3_countRuns_3 rfl hl (by decide) rfl (fun ls hl => ?_)
  have loop_4 : ∀ (n9 : Nat) (j k : Nat), 15 - j < n9 → (j ≤ 15) → (k = runF x j) → ∀ (ls : Array Slot), lv_has ls 4 [(0, .long x), (2, .int (nI k)), (3, .int (nI (j + 1)))] → W pp l ee ({ frames := 1, cells := 0, slots := 0, locals := 22 } : Room) ss mm ([.long x] : List Value).toArray bw mt cd ss.heap [] 0 0 QQ (F0 mm 4 ls []) := by
    intro n9
    induction n9 with
    | zero => intro j k h9; exact absurd h9 (Nat.not_lt_zero _)
    | succ n9 ih_4 =>
      intro j k hm_4 hi hk ls hl
      refine lv_iload_n hx hb dX3_countRuns_4 rfl (lv_at hl 2 rfl) ?_
      refine lv_bipush (v := nI 16) hx hb dX3_countRuns_5 (by decide) ?_
      refine lv_icmp_ge (tgt := 34) hx hb dX3_countRuns_7 (by decide) (fun c_7 => ?_) (fun c_7 => ?_)
      · skip
        have c_7 : 16 ≤ (j + 1) := (nI_leI (a := 16) (b := (j + 1)) (by omega) (by omega)).mp c_7
        refine lv_iload_n hx hb dX3_countRuns_34 rfl (lv_at hl 1 rfl) ?_
        exact hret _ _ _ dX3_countRuns_35 (by have e9 : j = 15 := (by omega); rw [hk, e9]; rfl)
      · skip
        have c_7 : ¬ 16 ≤ (j + 1) := fun z => c_7 ((nI_leI (a := 16) (b := (j + 1)) (by omega) (by omega)).mpr z)
        refine lv_lload_n hx hb dX3_countRuns_10 rfl (lv_at hl 0 rfl) ?_
        refine lv_iload_n hx hb dX3_countRuns_11 rfl (lv_at hl 2 rfl) ?_
        refine gc_Si (va_runS (As := [.long x, .int (nI (j + 1))]) (rest := []) ⟨hx, hb, hml, hown, hts⟩ (c_X3_cellAt l D cy x (j + 1) (by omega)) (va_cwS 2 hts gX3_countRuns_X3_cellAt rfl rfl rfl (by decide +kernel) ⟨Nat.le_of_ble_eq_true rfl, Nat.le_of_ble_eq_true rfl⟩) (gpSR hG (hP.sub [] rfl)) rfl rfl hl.1 rfl (lv_room (Nat.le_of_ble_eq_true rfl)) dX3_countRuns_12 ⟨Nat.zero_le _, Nat.zero_le _⟩) ?_
        refine lv_lload_n hx hb dX3_countRuns_15 rfl (lv_at hl 0 rfl) ?_
        refine lv_iload_n hx hb dX3_countRuns_16 rfl (lv_at hl 2 rfl) ?_
        refine lv_iconst (v := nI 1) hx hb dX3_countRuns_17 (by decide) ?_
        refine lv_isub hx hb dX3_countRuns_18 ?_
        refine g_ti (y := nI j) (pk_sub (by omega)) ?_
        refine gc_Si (va_runS (As := [.long x, .int (nI j)]) (rest := [.int (nI (cel x (j + 1)))]) ⟨hx, hb, hml, hown, hts⟩ (c_X3_cellAt l D cy x j (by omega)) (va_cwS 2 hts gX3_countRuns_X3_cellAt rfl rfl rfl (by decide +kernel) ⟨Nat.le_of_ble_eq_true rfl, Nat.le_of_ble_eq_true rfl⟩) (gpSR hG (hP.sub [] rfl)) rfl rfl hl.1 rfl (lv_room (Nat.le_of_ble_eq_true rfl)) dX3_countRuns_19 ⟨Nat.zero_le _, Nat.zero_le _⟩) ?_
        refine lv_icmp_eq (tgt := 28) hx hb dX3_countRuns_22 (by decide) (fun c_22 => ?_) (fun c_22 => ?_)
        · skip
          have c_22 : (cel x (j + 1)) = (cel x j) := (nI_eq (a := (cel x (j + 1))) (b := (cel x j)) (Nat.lt_trans (cel_lt _ _) (by decide)) (Nat.lt_trans (cel_lt _ _) (by decide))).mp c_22
          refine lv_iinc (v := nI (j + 1 + 1)) (lv' := [(3, .int (nI (j + 1 + 1))), (0, .long x), (2, .int (nI k))]) hx hb dX3_countRuns_28 hl (k := 2) rfl (nI_1 _) (by decide) rfl (fun ls hl => ?_)
          refine lv_goto (tgt := 4) hx hb dX3_countRuns_31 (by decide) ?_
          exact ih_4 (j + 1) k (by omega) (by omega) (by unfold runF; first | (rw [if_neg c_22, hk]; done) | (rw [if_pos c_22, hk, Nat.add_zero]; done)) _ (lv_sub hl [1, 2, 0] rfl)
        · skip
          have c_22 : ¬ (cel x (j + 1)) = (cel x j) := fun z => c_22 ((nI_eq (a := (cel x (j + 1))) (b := (cel x j)) (Nat.lt_trans (cel_lt _ _) (by decide)) (Nat.lt_trans (cel_lt _ _) (by decide))).mpr z)
          refine lv_iinc (v := nI (k + 1)) (lv' := [(2, .int (nI (k + 1))), (0, .long x), (3, .int (nI (j + 1)))]) hx hb dX3_countRuns_25 hl (k := 1) rfl (nI_1 _) (by decide) rfl (fun ls hl => ?_)
          refine lv_iinc (v := nI (j + 1 + 1)) (lv' := [(3, .int (nI (j + 1 + 1))), (2, .int (nI (k + 1))), (0, .long x)]) hx hb dX3_countRuns_28 hl (k := 2) rfl (nI_1 _) (by decide) rfl (fun ls hl => ?_)
          refine lv_goto (tgt := 4) hx hb dX3_countRuns_31 (by decide) ?_
          exact ih_4 (j + 1) (k + 1) (by omega) (by omega) (by unfold runF; first | (rw [if_neg c_22, hk]; done) | (rw [if_pos c_22, hk, Nat.add_zero]; done)) _ (lv_sub hl [2, 1, 0] rfl)
  exact loop_4 ((15 - 0) + 1) 0 1 (Nat.lt_succ_self _) (by omega) rfl _ (lv_sub hl [2, 1, 0] rfl)
set_option maxHeartbeats 4000000 in
set_option maxRecDepth 100000 in
theorem c_X3_countDifferent (l : Launch) (D : va_G) (cy : Nat → ClassId) (x y : Int64)  : Met l yX3_countDifferent wsX3_countDifferent ({ frames := 1, cells := 0, slots := 0, locals := 22 } : Room) (va_Pc [.long x, .long y] (gR D (gT cy) [])) (vp_Si (fun r9 => r9 = nI (nDif x y))) 0 0 (fun _ => False) := by
  refine gM_i (cc := cX3_countDifferent) (maxL := 6) (ty := .int) (by decide) rfl (Nat.le_of_ble_eq_true rfl) (fun v hv => by rw [hv]; first | rfl | exact gb_nar _) ?_
  intro pp ee ss mm bw mt cd QQ ls hfx hP hG hret hl
  obtain ⟨hx, hb, hml, hown, hts, hlocks⟩ := hfx
  have hown : ss.vm.findClass RX3 = some mm.cls := hown
  have hl : lv_has ls 6 [(0, .long x), (2, .long y)] := hl
  refine lv_iconst (v := nI 0) hx hb dX3_countDifferent_0 (by decide) ?_
  refine lv_istore (lv' := [(4, .int (nI 0)), (0, .long x), (2, .long y)]) hx hb dX3_countDifferent_1 hl (by decide) rfl (fun ls hl => ?_)
  refine lv_iconst (v := nI 0) hx hb dX3_countDifferent_3 (by decide) ?_
  refine lv_istore (lv' := [(5, .int (nI 0)), (4, .int (nI 0)), (0, .long x), (2, .long y)]) hx hb dX3_countDifferent_4 hl (by decide) rfl (fun ls hl => ?_)
  have loop_6 : ∀ (n9 : Nat) (i k : Nat), 16 - i < n9 → (i ≤ 16) → (k = difF x y i) → ∀ (ls : Array Slot), lv_has ls 6 [(0, .long x), (2, .long y), (4, .int (nI k)), (5, .int (nI i))] → W pp l ee ({ frames := 1, cells := 0, slots := 0, locals := 22 } : Room) ss mm ([.long x, .long y] : List Value).toArray bw mt cd ss.heap [] 0 0 QQ (F0 mm 6 ls []) := by
    intro n9
    induction n9 with
    | zero => intro i k h9; exact absurd h9 (Nat.not_lt_zero _)
    | succ n9 ih_6 =>
      intro i k hm_6 hi hk ls hl
      refine lv_iload hx hb dX3_countDifferent_6 (lv_at hl 3 rfl) ?_
      refine lv_bipush (v := nI 16) hx hb dX3_countDifferent_8 (by decide) ?_
      refine lv_icmp_ge (tgt := 37) hx hb dX3_countDifferent_10 (by decide) (fun c_10 => ?_) (fun c_10 => ?_)
      · skip
        have c_10 : 16 ≤ i := (nI_leI (a := 16) (b := i) (by omega) (by omega)).mp c_10
        refine lv_iload hx hb dX3_countDifferent_37 (lv_at hl 2 rfl) ?_
        exact hret _ _ _ dX3_countDifferent_39 (by have e9 : i = 16 := (by omega); rw [hk, e9]; rfl)
      · skip
        have c_10 : ¬ 16 ≤ i := fun z => c_10 ((nI_leI (a := 16) (b := i) (by omega) (by omega)).mpr z)
        refine lv_lload_n hx hb dX3_countDifferent_13 rfl (lv_at hl 0 rfl) ?_
        refine lv_iload hx hb dX3_countDifferent_14 (lv_at hl 3 rfl) ?_
        refine gc_Si (va_runS (As := [.long x, .int (nI i)]) (rest := []) ⟨hx, hb, hml, hown, hts⟩ (c_X3_cellAt l D cy x i (by omega)) (va_cwS 2 hts gX3_countDifferent_X3_cellAt rfl rfl rfl (by decide +kernel) ⟨Nat.le_of_ble_eq_true rfl, Nat.le_of_ble_eq_true rfl⟩) (gpSR hG (hP.sub [] rfl)) rfl rfl hl.1 rfl (lv_room (Nat.le_of_ble_eq_true rfl)) dX3_countDifferent_16 ⟨Nat.zero_le _, Nat.zero_le _⟩) ?_
        refine lv_lload_n hx hb dX3_countDifferent_19 rfl (lv_at hl 1 rfl) ?_
        refine lv_iload hx hb dX3_countDifferent_20 (lv_at hl 3 rfl) ?_
        refine gc_Si (va_runS (As := [.long y, .int (nI i)]) (rest := [.int (nI (cel x i))]) ⟨hx, hb, hml, hown, hts⟩ (c_X3_cellAt l D cy y i (by omega)) (va_cwS 2 hts gX3_countDifferent_X3_cellAt rfl rfl rfl (by decide +kernel) ⟨Nat.le_of_ble_eq_true rfl, Nat.le_of_ble_eq_true rfl⟩) (gpSR hG (hP.sub [] rfl)) rfl rfl hl.1 rfl (lv_room (Nat.le_of_ble_eq_true rfl)) dX3_countDifferent_22 ⟨Nat.zero_le _, Nat.zero_le _⟩) ?_
        refine lv_icmp_eq (tgt := 31) hx hb dX3_countDifferent_25 (by decide) (fun c_25 => ?_) (fun c_25 => ?_)
        · skip
          have c_25 : (cel x i) = (cel y i) := (nI_eq (a := (cel x i)) (b := (cel y i)) (Nat.lt_trans (cel_lt _ _) (by decide)) (Nat.lt_trans (cel_lt _ _) (by decide))).mp c_25
          refine lv_iinc (v := nI (i + 1)) (lv' := [(5, .int (nI (i + 1))), (0, .long x), (2, .long y), (4, .int (nI k))]) hx hb dX3_countDifferent_31 hl (k := 3) rfl (nI_1 _) (by decide) rfl (fun ls hl => ?_)
          refine lv_goto (tgt := 6) hx hb dX3_countDifferent_34 (by decide) ?_
          exact ih_6 (i + 1) k (by omega) (by omega) (by unfold difF; first | (rw [if_neg c_25, hk]; done) | (rw [if_pos c_25, hk, Nat.add_zero]; done)) _ (lv_sub hl [1, 2, 3, 0] rfl)
        · skip
          have c_25 : ¬ (cel x i) = (cel y i) := fun z => c_25 ((nI_eq (a := (cel x i)) (b := (cel y i)) (Nat.lt_trans (cel_lt _ _) (by decide)) (Nat.lt_trans (cel_lt _ _) (by decide))).mpr z)
          refine lv_iinc (v := nI (k + 1)) (lv' := [(4, .int (nI (k + 1))), (0, .long x), (2, .long y), (5, .int (nI i))]) hx hb dX3_countDifferent_28 hl (k := 2) rfl (nI_1 _) (by decide) rfl (fun ls hl => ?_)
          refine lv_iinc (v := nI (i + 1)) (lv' := [(5, .int (nI (i + 1))), (4, .int (nI (k + 1))), (0, .long x), (2, .long y)]) hx hb dX3_countDifferent_31 hl (k := 3) rfl (nI_1 _) (by decide) rfl (fun ls hl => ?_)
          refine lv_goto (tgt := 6) hx hb dX3_countDifferent_34 (by decide) ?_
          exact ih_6 (i + 1) (k + 1) (by omega) (by omega) (by unfold difF; first | (rw [if_neg c_25, hk]; done) | (rw [if_pos c_25, hk, Nat.add_zero]; done)) _ (lv_sub hl [2, 3, 1, 0] rfl)
  exact loop_6 ((16 - 0) + 1) 0 0 (Nat.lt_succ_self _) (by omega) rfl _ (lv_sub hl [2, 3, 1, 0] rfl)
set_option maxHeartbeats 4000000 in
set_option maxRecDepth 100000 in
theorem c_X3_unitsByColours (l : Launch) (D : va_G) (cy : Nat → ClassId) (n : Nat) (hn : n ≤ 16) : Met l yX3_unitsByColours wsX3_unitsByColours ({ frames := 0, cells := 0, slots := 0, locals := 0 } : Room) (va_Pc [.int (nI n)] (gR D (gT cy) [])) (vp_Si (fun r9 => r9 = nI (ubc n))) 0 0 (fun _ => False) := by
  refine gM_i (cc := cX3_unitsByColours) (maxL := 1) (ty := .int) (by decide) rfl (Nat.le_of_ble_eq_true rfl) (fun v hv => by rw [hv]; first | rfl | exact gb_nar _) ?_
  intro pp ee ss mm bw mt cd QQ ls hfx hP hG hret hl
  obtain ⟨hx, hb, hml, hown, hts, hlocks⟩ := hfx
  have hown : ss.vm.findClass RX3 = some mm.cls := hown
  have hl : lv_has ls 1 [(0, .int (nI n))] := hl
  have en := nI_toInt (n := n) (by omega)
  refine lv_iload_n hx hb dX3_unitsByColours_0 rfl (lv_at hl 0 rfl) ?_
  rcases (show (nI n).toInt = 2 ∨ (nI n).toInt = 3 ∨ (nI n).toInt = 4 ∨ ((nI n).toInt < 2 ∨ 4 < (nI n).toInt) from by omega) with h_1 | h_1 | h_1 | h_1
  · skip
    refine lv_tableIn (tgt := 28) (off := 27) hx hb dX3_unitsByColours_1 (by rw [h_1]; decide) (by rw [h_1]; decide) (by rw [h_1]; rfl) (by decide) ?_
    refine lv_bipush (v := nI 10) hx hb dX3_unitsByColours_28 (by decide) ?_
    exact hret _ _ _ dX3_unitsByColours_30 (by refine lt_ret ?_; unfold ubc; (repeat' split) <;> omega)
  · skip
    refine lv_tableIn (tgt := 31) (off := 30) hx hb dX3_unitsByColours_1 (by rw [h_1]; decide) (by rw [h_1]; decide) (by rw [h_1]; rfl) (by decide) ?_
    refine lv_bipush (v := nI 15) hx hb dX3_unitsByColours_31 (by decide) ?_
    exact hret _ _ _ dX3_unitsByColours_33 (by refine lt_ret ?_; unfold ubc; (repeat' split) <;> omega)
  · skip
    refine lv_tableIn (tgt := 34) (off := 33) hx hb dX3_unitsByColours_1 (by rw [h_1]; decide) (by rw [h_1]; decide) (by rw [h_1]; rfl) (by decide) ?_
    refine lv_bipush (v := nI 16) hx hb dX3_unitsByColours_34 (by decide) ?_
    exact hret _ _ _ dX3_unitsByColours_36 (by refine lt_ret ?_; unfold ubc; (repeat' split) <;> omega)
  · skip
    refine lv_tableOut (tgt := 37) hx hb dX3_unitsByColours_1 (h_1) (by decide) ?_
    refine lv_bipush (v := nI 99) hx hb dX3_unitsByColours_37 (by decide) ?_
    exact hret _ _ _ dX3_unitsByColours_39 (by refine lt_ret ?_; unfold ubc; (repeat' split) <;> omega)
set_option maxHeartbeats 4000000 in
set_option maxRecDepth 100000 in
theorem c_X3_unitsIn (l : Launch) (D : va_G) (cy : Nat → ClassId) (k : Nat) (x : Int64) (h t : Nat) (L : List Int64) (f : Nat → Int64) (hk : k ≤ 4) (hf : hC L f) (hL : L.length ≤ 6) : Met l yX3_unitsIn wsX3_unitsIn ({ frames := 2, cells := 0, slots := 0, locals := 45 } : Room) (va_Pc [.int (nI k), .long x, .ref h] (gR D (gT cy) [(h, eCch t (nI L.length)), (t, eJ cy 6 f)])) (vp_Si (fun r9 => r9 = nI (unW L x k))) 0 0 (fun _ => False) := by
  refine gM_i (cc := cX3_unitsIn) (maxL := 4) (ty := .int) (by decide) rfl (Nat.le_of_ble_eq_true rfl) (fun v hv => by rw [hv]; first | rfl | exact gb_nar _) ?_
  intro pp ee ss mm bw mt cd QQ ls hfx hP hG hret hl
  obtain ⟨hx, hb, hml, hown, hts, hlocks⟩ := hfx
  have hown : ss.vm.findClass RX3 = some mm.cls := hown
  have hl : lv_has ls 4 [(0, .int (nI k)), (1, .long x), (3, .ref h)] := hl
  have en := nI_toInt (n := k) (by omega)
  have z1 := nRun_le x
  have z2 := nCol_le x
  refine lv_iload_n hx hb dX3_unitsIn_0 rfl (lv_at hl 0 rfl) ?_
  rcases (show (nI k).toInt = 0 ∨ (nI k).toInt = 1 ∨ (nI k).toInt = 2 ∨ (nI k).toInt = 3 ∨ ((nI k).toInt < 0 ∨ 3 < (nI k).toInt) from by omega) with h_1 | h_1 | h_1 | h_1 | h_1
  · skip
    refine lv_tableIn (tgt := 32) (off := 31) hx hb dX3_unitsIn_1 (by rw [h_1]; decide) (by rw [h_1]; decide) (by rw [h_1]; rfl) (by decide) ?_
    have e9 : k = 0 := by omega
    subst e9
    refine lv_aload_n hx hb dX3_unitsIn_32 rfl (lv_at hl 2 rfl) ?_
    refine lv_lload_n hx hb dX3_unitsIn_33 rfl (lv_at hl 1 rfl) ?_
    refine gc_Si (va_runV (As := [.long x]) (rest := []) ⟨hx, hb, hml, hown, hts⟩ (c_X0_holds l D cy h t L f x hf hL) (cwV 1 hts gX3_unitsIn_X0_holds rfl rfl rfl (by decide +kernel) ⟨Nat.le_of_ble_eq_true rfl, Nat.le_of_ble_eq_true rfl⟩) (gpVR (ci := 0) (q0 := 0) hG (hP.sub [0, 1] rfl) rfl rfl) rfl rfl hl.1 rfl (lv_room (Nat.le_of_ble_eq_true rfl)) dX3_unitsIn_34 ⟨Nat.zero_le _, Nat.zero_le _⟩) ?_
    refine lv_if_eq (tgt := 44) hx hb dX3_unitsIn_37 (by decide) (fun c_37 => ?_) (fun c_37 => ?_)
    · skip
      have c_37 : ¬ (ixF L x < L.length) := gb_eq0.mp c_37
      refine lv_bipush (v := nI 99) hx hb dX3_unitsIn_44 (by decide) ?_
      exact hret _ _ _ dX3_unitsIn_46 (by first | (exact lt_ret (if_pos c_37).symm) | (exact lt_ret (if_neg c_37).symm))
    · skip
      have c_37 : ixF L x < L.length := gb_ne0.mp c_37
      refine lv_iconst (v := nI 2) hx hb dX3_unitsIn_40 (by decide) ?_
      refine lv_goto (tgt := 46) hx hb dX3_unitsIn_41 (by decide) ?_
      exact hret _ _ _ dX3_unitsIn_46 (by first | (exact lt_ret (if_pos c_37).symm) | (exact lt_ret (if_neg c_37).symm))
  · skip
    refine lv_tableIn (tgt := 47) (off := 46) hx hb dX3_unitsIn_1 (by rw [h_1]; decide) (by rw [h_1]; decide) (by rw [h_1]; rfl) (by decide) ?_
    have e9 : k = 1 := by omega
    subst e9
    refine lv_lload_n hx hb dX3_unitsIn_47 rfl (lv_at hl 1 rfl) ?_
    refine gc_Si (va_runS (As := [.long x]) (rest := []) ⟨hx, hb, hml, hown, hts⟩ (c_X3_countColours l D cy x) (va_cwS 1 hts gX3_unitsIn_X3_countColours rfl rfl rfl (by decide +kernel) ⟨Nat.le_of_ble_eq_true rfl, Nat.le_of_ble_eq_true rfl⟩) (gpSR hG (hP.sub [] rfl)) rfl rfl hl.1 rfl (lv_room (Nat.le_of_ble_eq_true rfl)) dX3_unitsIn_48 ⟨Nat.zero_le _, Nat.zero_le _⟩) ?_
    refine lv_iconst (v := nI 1) hx hb dX3_unitsIn_51 (by decide) ?_
    refine lv_icmp_ne (tgt := 59) hx hb dX3_unitsIn_52 (by decide) (fun c_52 => ?_) (fun c_52 => ?_)
    · skip
      have c_52 : ¬ (nCol x) = 1 := fun z => c_52 ((nI_eq (a := (nCol x)) (b := 1) (by omega) (by omega)).mpr z)
      refine lv_bipush (v := nI 99) hx hb dX3_unitsIn_59 (by decide) ?_
      exact hret _ _ _ dX3_unitsIn_61 (by first | (exact lt_ret (if_pos c_52).symm) | (exact lt_ret (if_neg c_52).symm))
    · skip
      have c_52 : (nCol x) = 1 := (nI_eq (a := (nCol x)) (b := 1) (by omega) (by omega)).mp c_52
      refine lv_iconst (v := nI 3) hx hb dX3_unitsIn_55 (by decide) ?_
      refine lv_goto (tgt := 61) hx hb dX3_unitsIn_56 (by decide) ?_
      exact hret _ _ _ dX3_unitsIn_61 (by first | (exact lt_ret (if_pos c_52).symm) | (exact lt_ret (if_neg c_52).symm))
  · skip
    refine lv_tableIn (tgt := 62) (off := 61) hx hb dX3_unitsIn_1 (by rw [h_1]; decide) (by rw [h_1]; decide) (by rw [h_1]; rfl) (by decide) ?_
    have e9 : k = 2 := by omega
    subst e9
    refine lv_lload_n hx hb dX3_unitsIn_62 rfl (lv_at hl 1 rfl) ?_
    refine gc_Si (va_runS (As := [.long x]) (rest := []) ⟨hx, hb, hml, hown, hts⟩ (c_X3_countColours l D cy x) (va_cwS 1 hts gX3_unitsIn_X3_countColours rfl rfl rfl (by decide +kernel) ⟨Nat.le_of_ble_eq_true rfl, Nat.le_of_ble_eq_true rfl⟩) (gpSR hG (hP.sub [] rfl)) rfl rfl hl.1 rfl (lv_room (Nat.le_of_ble_eq_true rfl)) dX3_unitsIn_63 ⟨Nat.zero_le _, Nat.zero_le _⟩) ?_
    refine gc_Si (va_runS (As := [.int (nI (nCol x))]) (rest := []) ⟨hx, hb, hml, hown, hts⟩ (c_X3_unitsByColours l D cy (nCol x) z2) (va_cwS 1 hts gX3_unitsIn_X3_unitsByColours rfl rfl rfl (by decide +kernel) ⟨Nat.le_of_ble_eq_true rfl, Nat.le_of_ble_eq_true rfl⟩) (gpSR hG (hP.sub [] rfl)) rfl rfl hl.1 rfl (lv_room (Nat.le_of_ble_eq_true rfl)) dX3_unitsIn_66 ⟨Nat.zero_le _, Nat.zero_le _⟩) ?_
    exact hret _ _ _ dX3_unitsIn_69 rfl
  · skip
    refine lv_tableIn (tgt := 70) (off := 69) hx hb dX3_unitsIn_1 (by rw [h_1]; decide) (by rw [h_1]; decide) (by rw [h_1]; rfl) (by decide) ?_
    have e9 : k = 3 := by omega
    subst e9
    refine lv_iconst (v := nI 1) hx hb dX3_unitsIn_70 (by decide) ?_
    refine lv_iconst (v := nI 2) hx hb dX3_unitsIn_71 (by decide) ?_
    refine lv_lload_n hx hb dX3_unitsIn_72 rfl (lv_at hl 1 rfl) ?_
    refine gc_Si (va_runS (As := [.long x]) (rest := [.int (nI 2), .int (nI 1)]) ⟨hx, hb, hml, hown, hts⟩ (c_X3_countRuns l D cy x) (va_cwS 1 hts gX3_unitsIn_X3_countRuns rfl rfl rfl (by decide +kernel) ⟨Nat.le_of_ble_eq_true rfl, Nat.le_of_ble_eq_true rfl⟩) (gpSR hG (hP.sub [] rfl)) rfl rfl hl.1 rfl (lv_room (Nat.le_of_ble_eq_true rfl)) dX3_unitsIn_73 ⟨Nat.zero_le _, Nat.zero_le _⟩) ?_
    refine lv_imul hx hb dX3_unitsIn_76 ?_
    refine g_ti (y := nI (2 * (nRun x))) (pk_mul _ _) ?_
    refine lv_iadd hx hb dX3_unitsIn_77 ?_
    refine g_ti (y := nI (1 + (2 * (nRun x)))) (nI_add _ _) ?_
    exact hret _ _ _ dX3_unitsIn_78 rfl
  · skip
    refine lv_tableOut (tgt := 79) hx hb dX3_unitsIn_1 (h_1) (by decide) ?_
    have e9 : k = 4 := by omega
    subst e9
    refine lv_bipush (v := nI 17) hx hb dX3_unitsIn_79 (by decide) ?_
    exact hret _ _ _ dX3_unitsIn_81 rfl
set_option maxHeartbeats 4000000 in
set_option maxRecDepth 100000 in
theorem c_X3_cheapestWriting (l : Launch) (D : va_G) (cy : Nat → ClassId) (x : Int64) (h t : Nat) (L : List Int64) (f : Nat → Int64) (hf : hC L f) (hL : L.length ≤ 6) : Met l yX3_cheapestWriting wsX3_cheapestWriting ({ frames := 3, cells := 0, slots := 0, locals := 68 } : Room) (va_Pc [.long x, .ref h] (gR D (gT cy) [(h, eCch t (nI L.length)), (t, eJ cy 6 f)])) (vp_Si (fun r9 => r9 = nI (wayO L x))) 0 0 (fun _ => False) := by
  refine gM_i (cc := cX3_cheapestWriting) (maxL := 7) (ty := .int) (by decide) rfl (Nat.le_of_ble_eq_true rfl) (fun v hv => by rw [hv]; first | rfl | exact gb_nar _) ?_
  intro pp ee ss mm bw mt cd QQ ls hfx hP hG hret hl
  obtain ⟨hx, hb, hml, hown, hts, hlocks⟩ := hfx
  have hown : ss.vm.findClass RX3 = some mm.cls := hown
  have hl : lv_has ls 7 [(0, .long x), (2, .ref h)] := hl
  refine lv_iconst (v := nI 0) hx hb dX3_cheapestWriting_0 (by decide) ?_
  refine lv_istore_n (lv' := [(3, .int (nI 0)), (0, .long x), (2, .ref h)]) hx hb dX3_cheapestWriting_1 rfl hl (by decide) rfl (fun ls hl => ?_)
  refine lv_bipush (v := nI 99) hx hb dX3_cheapestWriting_2 (by decide) ?_
  refine lv_istore (lv' := [(4, .int (nI 99)), (3, .int (nI 0)), (0, .long x), (2, .ref h)]) hx hb dX3_cheapestWriting_4 hl (by decide) rfl (fun ls hl => ?_)
  refine lv_iconst (v := nI 0) hx hb dX3_cheapestWriting_6 (by decide) ?_
  refine lv_istore (lv' := [(5, .int (nI 0)), (4, .int (nI 99)), (3, .int (nI 0)), (0, .long x), (2, .ref h)]) hx hb dX3_cheapestWriting_7 hl (by decide) rfl (fun ls hl => ?_)
  have loop_9 : ∀ (n9 : Nat) (i w b : Nat), 5 - i < n9 → (i ≤ 5) → ((w, b) = cwF (unW L x) i) → ∀ (ls : Array Slot), lv_has ls 7 [(0, .long x), (2, .ref h), (3, .int (nI w)), (4, .int (nI b)), (5, .int (nI i))] → W pp l ee ({ frames := 3, cells := 0, slots := 0, locals := 68 } : Room) ss mm ([.long x, .ref h] : List Value).toArray bw mt cd ss.heap [] 0 0 QQ (F0 mm 9 ls []) := by
    intro n9
    induction n9 with
    | zero => intro i w b h9; exact absurd h9 (Nat.not_lt_zero _)
    | succ n9 ih_9 =>
      intro i w b hm_9 hi hb9 ls hl
      have z1 := cwF_le (unW L x) i
      rw [← hb9] at z1
      have z2 : w ≤ i ∧ b ≤ 99 := z1
      have z3 := unW_le L x i
      refine lv_iload hx hb dX3_cheapestWriting_9 (lv_at hl 4 rfl) ?_
      refine lv_iconst (v := nI 5) hx hb dX3_cheapestWriting_11 (by decide) ?_
      refine lv_icmp_ge (tgt := 44) hx hb dX3_cheapestWriting_12 (by decide) (fun c_12 => ?_) (fun c_12 => ?_)
      · skip
        have c_12 : 5 ≤ i := (nI_leI (a := 5) (b := i) (by omega) (by omega)).mp c_12
        refine lv_bipush (v := nI 100) hx hb dX3_cheapestWriting_44 (by decide) ?_
        refine lv_iload_n hx hb dX3_cheapestWriting_46 rfl (lv_at hl 2 rfl) ?_
        refine lv_imul hx hb dX3_cheapestWriting_47 ?_
        refine g_ti (y := nI (100 * w)) (pk_mul _ _) ?_
        refine lv_iload hx hb dX3_cheapestWriting_48 (lv_at hl 3 rfl) ?_
        refine lv_iadd hx hb dX3_cheapestWriting_50 ?_
        refine g_ti (y := nI ((100 * w) + b)) (nI_add _ _) ?_
        exact hret _ _ _ dX3_cheapestWriting_51 (by have e9 : i = 5 := (by omega); unfold wayO; rw [e9] at hb9; rw [← hb9])
      · skip
        have c_12 : ¬ 5 ≤ i := fun z => c_12 ((nI_leI (a := 5) (b := i) (by omega) (by omega)).mpr z)
        refine lv_iload hx hb dX3_cheapestWriting_15 (lv_at hl 4 rfl) ?_
        refine lv_lload_n hx hb dX3_cheapestWriting_17 rfl (lv_at hl 0 rfl) ?_
        refine lv_aload_n hx hb dX3_cheapestWriting_18 rfl (lv_at hl 1 rfl) ?_
        refine gc_Si (va_runS (As := [.int (nI i), .long x, .ref h]) (rest := []) ⟨hx, hb, hml, hown, hts⟩ (c_X3_unitsIn l D cy i x h t L f (by omega) hf hL) (va_cwS 3 hts gX3_cheapestWriting_X3_unitsIn rfl rfl rfl (by decide +kernel) ⟨Nat.le_of_ble_eq_true rfl, Nat.le_of_ble_eq_true rfl⟩) (gpSR hG (hP.sub [0, 1] rfl)) rfl rfl hl.1 rfl (lv_room (Nat.le_of_ble_eq_true rfl)) dX3_cheapestWriting_19 ⟨Nat.zero_le _, Nat.zero_le _⟩) ?_
        refine lv_istore (lv' := [(6, .int (nI (unW L x i))), (0, .long x), (2, .ref h), (3, .int (nI w)), (4, .int (nI b)), (5, .int (nI i))]) hx hb dX3_cheapestWriting_22 hl (by decide) rfl (fun ls hl => ?_)
        refine lv_iload hx hb dX3_cheapestWriting_24 (lv_at hl 0 rfl) ?_
        refine lv_iload hx hb dX3_cheapestWriting_26 (lv_at hl 4 rfl) ?_
        refine lv_icmp_ge (tgt := 38) hx hb dX3_cheapestWriting_28 (by decide) (fun c_28 => ?_) (fun c_28 => ?_)
        · skip
          have c_28 : b ≤ (unW L x i) := (nI_leI (a := b) (b := (unW L x i)) (by omega) (by omega)).mp c_28
          refine lv_iinc (v := nI (i + 1)) (lv' := [(5, .int (nI (i + 1))), (6, .int (nI (unW L x i))), (0, .long x), (2, .ref h), (3, .int (nI w)), (4, .int (nI b))]) hx hb dX3_cheapestWriting_38 hl (k := 5) rfl (nI_1 _) (by decide) rfl (fun ls hl => ?_)
          refine lv_goto (tgt := 9) hx hb dX3_cheapestWriting_41 (by decide) ?_
          exact ih_9 (i + 1) w b (by omega) (by omega) (by first | exact cwF_t hb9 (by omega) | exact cwF_f hb9 (by omega)) _ (lv_sub hl [2, 3, 4, 5, 0] rfl)
        · skip
          have c_28 : ¬ b ≤ (unW L x i) := fun z => c_28 ((nI_leI (a := b) (b := (unW L x i)) (by omega) (by omega)).mpr z)
          refine lv_iload hx hb dX3_cheapestWriting_31 (lv_at hl 5 rfl) ?_
          refine lv_istore_n (lv' := [(3, .int (nI i)), (6, .int (nI (unW L x i))), (0, .long x), (2, .ref h), (4, .int (nI b)), (5, .int (nI i))]) hx hb dX3_cheapestWriting_33 rfl hl (by decide) rfl (fun ls hl => ?_)
          refine lv_iload hx hb dX3_cheapestWriting_34 (lv_at hl 1 rfl) ?_
          refine lv_istore (lv' := [(4, .int (nI (unW L x i))), (3, .int (nI i)), (6, .int (nI (unW L x i))), (0, .long x), (2, .ref h), (5, .int (nI i))]) hx hb dX3_cheapestWriting_36 hl (by decide) rfl (fun ls hl => ?_)
          refine lv_iinc (v := nI (i + 1)) (lv' := [(5, .int (nI (i + 1))), (4, .int (nI (unW L x i))), (3, .int (nI i)), (6, .int (nI (unW L x i))), (0, .long x), (2, .ref h)]) hx hb dX3_cheapestWriting_38 hl (k := 5) rfl (nI_1 _) (by decide) rfl (fun ls hl => ?_)
          refine lv_goto (tgt := 9) hx hb dX3_cheapestWriting_41 (by decide) ?_
          exact ih_9 (i + 1) i (unW L x i) (by omega) (by omega) (by first | exact cwF_t hb9 (by omega) | exact cwF_f hb9 (by omega)) _ (lv_sub hl [4, 5, 2, 1, 0] rfl)
  exact loop_9 ((5 - 0) + 1) 0 0 99 (Nat.lt_succ_self _) (by omega) rfl _ (lv_sub hl [3, 4, 2, 1, 0] rfl)
end
section
/-! the class: clients -/
/-! a client: its row of dirty tiles, its message -/
def hN (L : List Nat) (f : Nat → Int32) : Prop := ∀ i, i < L.length → f i = nI (L.getD i 0)
def okD (L : List Nat) : Prop := L.Nodup ∧ ∀ d, d ∈ L → d < 12
theorem getD_mem {L : List Nat} {i : Nat} (h : i < L.length) : L.getD i 0 ∈ L := by
  rw [List.getD_eq_getElem?_getD, List.getElem?_eq_getElem h]
  exact List.getElem_mem h
theorem okD_get {L : List Nat} (h : okD L) {i : Nat} (hi : i < L.length) : L.getD i 0 < 12 := h.2 _ (getD_mem hi)
theorem okD_len {L : List Nat} (h : okD L) : L.length ≤ 12 := by
  refine fb_holes 12 L.length (fun i => L.getD i 0) (fun i hi => okD_get h hi) (fun i j hij hj e => ?_)
  have hi : i < L.length := by omega
  have e2 : L[i] = L[j] := by
    have h1 : L.getD i 0 = L[i] := by rw [List.getD_eq_getElem?_getD, List.getElem?_eq_getElem hi]; rfl
    have h2 : L.getD j 0 = L[j] := by rw [List.getD_eq_getElem?_getD, List.getElem?_eq_getElem hj]; rfl
    rw [← h1, ← h2]; exact e
  exact List.pairwise_iff_getElem.mp h.1 i j hi hj hij e2
/-- a tile becomes dirty: at the end of the row, if it isn't there -/
def soil (L : List Nat) (t : Nat) : List Nat := if t ∈ L then L else L ++ [t]
theorem soil_ok {L : List Nat} {t : Nat} (h : okD L) (ht : t < 12) : okD (soil L t) := by
  unfold soil
  split
  · exact h
  · rename_i hn
    refine ⟨?_, fun d hd => ?_⟩
    · rw [List.nodup_append]
      refine ⟨h.1, by simp, fun a ha b hb e => ?_⟩
      rw [List.mem_singleton] at hb
      exact hn (by rw [← hb, ← e]; exact ha)
    · rcases List.mem_append.mp hd with q | q
      · exact h.2 d q
      · rw [List.mem_singleton] at q; omega
theorem mem_getD {L : List Nat} {t : Nat} (h : t ∈ L) : ∃ i, i < L.length ∧ L.getD i 0 = t := by
  obtain ⟨i, hi, e⟩ := List.getElem_of_mem h
  exact ⟨i, hi, by rw [List.getD_eq_getElem?_getD, List.getElem?_eq_getElem hi]; exact e⟩
theorem soil_in {L : List Nat} {t i : Nat} (hi : i < L.length) (h : L.getD i 0 = t) : soil L t = L := by
  unfold soil
  exact if_pos (by rw [← h]; exact getD_mem hi)
theorem soil_out {L : List Nat} {t : Nat} (h : ∀ j, j < L.length → L.getD j 0 ≠ t) : soil L t = L ++ [t] := by
  unfold soil
  refine if_neg (fun hm => ?_)
  obtain ⟨i, hi, e⟩ := mem_getD hm
  exact h i hi e
theorem hN_app {L : List Nat} {f : Nat → Int32} {t : Nat} (h : hN L f) : hN (L ++ [t]) (upd f L.length (nI t)) := by
  intro i hi
  rw [List.length_append, List.length_singleton] at hi
  by_cases e : i = L.length
  · rw [e, pk_us, List.getD_eq_getElem?_getD, List.getElem?_append_right (Nat.le_refl _), Nat.sub_self]; rfl
  · rw [pk_un e, h i (by omega), List.getD_eq_getElem?_getD, List.getD_eq_getElem?_getD, List.getElem?_append_left (by omega)]
theorem okD_room {L : List Nat} {t : Nat} (h : okD L) (ht : t < 12) (hn : soil L t = L ++ [t]) : L.length < 12 := by
  have := okD_len (soil_ok h ht)
  rw [hn, List.length_append, List.length_singleton] at this
  omega
def mT (M : List (Nat × Int64)) (i : Nat) : Nat := (M.getD i (0, 0)).1
def mX (M : List (Nat × Int64)) (i : Nat) : Int64 := (M.getD i (0, 0)).2
def hM (M : List (Nat × Int64)) (ft : Nat → Int32) (fm : Nat → Int64) : Prop := ∀ i, i < M.length → ft i = nI (mT M i) ∧ fm i = mX M i
def okM (M : List (Nat × Int64)) : Prop := ∀ i, i < M.length → mT M i < 12
theorem mT_app {M : List (Nat × Int64)} {t : Nat} {x : Int64} {i : Nat} : i < M.length → mT (M ++ [(t, x)]) i = mT M i ∧ mX (M ++ [(t, x)]) i = mX M i := by
  intro hi
  unfold mT mX
  rw [List.getD_eq_getElem?_getD, List.getD_eq_getElem?_getD, List.getElem?_append_left hi]
  exact ⟨rfl, rfl⟩
theorem mT_last {M : List (Nat × Int64)} {t : Nat} {x : Int64} : mT (M ++ [(t, x)]) M.length = t ∧ mX (M ++ [(t, x)]) M.length = x := by
  unfold mT mX
  rw [List.getD_eq_getElem?_getD, List.getElem?_append_right (Nat.le_refl _), Nat.sub_self]
  exact ⟨rfl, rfl⟩
theorem hM_app {M : List (Nat × Int64)} {ft : Nat → Int32} {fm : Nat → Int64} {t : Nat} {x : Int64} (h : hM M ft fm) : hM (M ++ [(t, x)]) (upd ft M.length (nI t)) (vp_updL fm M.length x) := by
  intro i hi
  rw [List.length_append, List.length_singleton] at hi
  by_cases e : i = M.length
  · subst e
    rw [pk_us, pk_uLs, mT_last.1, mT_last.2]
    exact ⟨rfl, rfl⟩
  · rw [pk_un e, pk_uLn e, (mT_app (by omega)).1, (mT_app (by omega)).2]
    exact h i (by omega)
theorem okM_app {M : List (Nat × Int64)} {t : Nat} {x : Int64} (h : okM M) (ht : t < 12) : okM (M ++ [(t, x)]) := by
  intro i hi
  rw [List.length_append, List.length_singleton] at hi
  by_cases e : i = M.length
  · rw [e, mT_last.1]; exact ht
  · rw [(mT_app (by omega)).1]; exact h i (by omega)
/-- the tiles of a message come to a screen, and to a cache -/
def scrF (M : List (Nat × Int64)) (f : Nat → Int64) : Nat → Int64 := M.foldl (fun g m => vp_updL g m.1 m.2) f
def cchF (M : List (Nat × Int64)) (O : List Int64) : List Int64 := M.foldl (fun o m => brg o m.2) O
theorem take_get {M : List (Nat × Int64)} {i : Nat} (hi : i < M.length) : M.take (i + 1) = M.take i ++ [(mT M i, mX M i)] := by
  rw [List.take_add_one, List.getElem?_eq_getElem hi]
  unfold mT mX
  rw [List.getD_eq_getElem?_getD, List.getElem?_eq_getElem hi]
  rfl
theorem scrF_step {M : List (Nat × Int64)} {i : Nat} (hi : i < M.length) {f g : Nat → Int64} (h : g = scrF (M.take i) f) : vp_updL g (mT M i) (mX M i) = scrF (M.take (i + 1)) f := by
  unfold scrF
  rw [take_get hi, List.foldl_append, h]; rfl
theorem cchF_step {M : List (Nat × Int64)} {i : Nat} (hi : i < M.length) {O P : List Int64} (h : P = cchF (M.take i) O) : brg P (mX M i) = cchF (M.take (i + 1)) O := by
  unfold cchF
  rw [take_get hi, List.foldl_append, h]; rfl
theorem iX1_hasJoined_X1 : ∀ w ∈ wsX10, w ∈ wsX1_hasJoined := by decide +kernel
set_option maxHeartbeats 4000000 in
set_option maxRecDepth 100000 in
theorem c_X1_hasJoined (l : Launch) (D : va_G) (cy : Nat → ClassId) (q : Nat → Nat) (J : Prop) (dc k : Int32)  : Met l yX1_hasJoined wsX1_hasJoined ({ frames := 0, cells := 0, slots := 0, locals := 0 } : Room) (va_Pc [.ref (q 0)] (gR D (gT cy) [(q 0, eCli (gb (J)) (q 1) (q 3) (q 5) (q 7) dc (q 8) (q 9) k)])) (vp_Si (fun r9 => r9 = gb (J))) 0 0 (fun _ => False) := by
  refine gM_i (cc := cX1_hasJoined) (maxL := 1) (ty := .boolean) (by decide) rfl (Nat.le_of_ble_eq_true rfl) (fun v hv => by rw [hv]; first | rfl | exact gb_nar _) ?_
  intro pp ee ss mm bw mt cd QQ ls hfx hP hG hret hl
  obtain ⟨hx, hb, hml, hown, hts, hlocks⟩ := hfx
  have hown : ss.vm.findClass RX1 = some mm.cls := hown
  have hl : lv_has ls 1 [(0, .ref (q 0))] := hl
  refine lv_aload_n hx hb dX1_hasJoined_0 rfl (lv_at hl 0 rfl) ?_
  refine va_get (D := D) (ci := 1) (v := .int (gb (J))) (C := RX1) (T := TX1) (N := 9) hx hb hts iX1_hasJoined_X1 hown hG.1 hP 0 rfl rfl 0 (by decide) (hts (.fieldLink RX1 9 "DirtyTiles$Client" "joined" "Z") (by decide +kernel)) (fun _ h9 => h9) rfl dX1_hasJoined_1 ?_
  exact hret _ _ _ dX1_hasJoined_4 rfl
theorem iX1_ownScreen_X1 : ∀ w ∈ wsX10, w ∈ wsX1_ownScreen := by decide +kernel
set_option maxHeartbeats 4000000 in
set_option maxRecDepth 100000 in
theorem c_X1_ownScreen (l : Launch) (D : va_G) (cy : Nat → ClassId) (q : Nat → Nat) (J : Prop) (dc k : Int32)  : Met l yX1_ownScreen wsX1_ownScreen ({ frames := 0, cells := 0, slots := 0, locals := 0 } : Room) (va_Pc [.ref (q 0)] (gR D (gT cy) [(q 0, eCli (gb (J)) (q 1) (q 3) (q 5) (q 7) dc (q 8) (q 9) k)])) (va_Sr (fun k9 => k9 = q 1) Value.ref) 0 0 (fun _ => False) := by
  refine gM_a (cc := cX1_ownScreen) (maxL := 1) (by decide) rfl (Nat.le_of_ble_eq_true rfl) ?_
  intro pp ee ss mm bw mt cd QQ ls hfx hP hG hret hl
  obtain ⟨hx, hb, hml, hown, hts, hlocks⟩ := hfx
  have hown : ss.vm.findClass RX1 = some mm.cls := hown
  have hl : lv_has ls 1 [(0, .ref (q 0))] := hl
  refine lv_aload_n hx hb dX1_ownScreen_0 rfl (lv_at hl 0 rfl) ?_
  refine va_get (D := D) (ci := 1) (v := .ref (q 1)) (C := RX1) (T := TX1) (N := 9) hx hb hts iX1_ownScreen_X1 hown hG.1 hP 0 rfl rfl 1 (by decide) (hts (.fieldLink RX1 18 "DirtyTiles$Client" "ownScreen" "LDirtyTiles$Screen;") (by decide +kernel)) (fun _ h9 => h9) rfl dX1_ownScreen_1 ?_
  exact hret _ _ dX1_ownScreen_4
theorem iX1_ownCache_X1 : ∀ w ∈ wsX10, w ∈ wsX1_ownCache := by decide +kernel
set_option maxHeartbeats 4000000 in
set_option maxRecDepth 100000 in
theorem c_X1_ownCache (l : Launch) (D : va_G) (cy : Nat → ClassId) (q : Nat → Nat) (J : Prop) (dc k : Int32)  : Met l yX1_ownCache wsX1_ownCache ({ frames := 0, cells := 0, slots := 0, locals := 0 } : Room) (va_Pc [.ref (q 0)] (gR D (gT cy) [(q 0, eCli (gb (J)) (q 1) (q 3) (q 5) (q 7) dc (q 8) (q 9) k)])) (va_Sr (fun k9 => k9 = q 3) Value.ref) 0 0 (fun _ => False) := by
  refine gM_a (cc := cX1_ownCache) (maxL := 1) (by decide) rfl (Nat.le_of_ble_eq_true rfl) ?_
  intro pp ee ss mm bw mt cd QQ ls hfx hP hG hret hl
  obtain ⟨hx, hb, hml, hown, hts, hlocks⟩ := hfx
  have hown : ss.vm.findClass RX1 = some mm.cls := hown
  have hl : lv_has ls 1 [(0, .ref (q 0))] := hl
  refine lv_aload_n hx hb dX1_ownCache_0 rfl (lv_at hl 0 rfl) ?_
  refine va_get (D := D) (ci := 1) (v := .ref (q 3)) (C := RX1) (T := TX1) (N := 9) hx hb hts iX1_ownCache_X1 hown hG.1 hP 0 rfl rfl 2 (by decide) (hts (.fieldLink RX1 25 "DirtyTiles$Client" "ownCache" "LDirtyTiles$Cache;") (by decide +kernel)) (fun _ h9 => h9) rfl dX1_ownCache_1 ?_
  exact hret _ _ dX1_ownCache_4
theorem iX1_serverCache_X1 : ∀ w ∈ wsX10, w ∈ wsX1_serverCache := by decide +kernel
set_option maxHeartbeats 4000000 in
set_option maxRecDepth 100000 in
theorem c_X1_serverCache (l : Launch) (D : va_G) (cy : Nat → ClassId) (q : Nat → Nat) (J : Prop) (dc k : Int32)  : Met l yX1_serverCache wsX1_serverCache ({ frames := 0, cells := 0, slots := 0, locals := 0 } : Room) (va_Pc [.ref (q 0)] (gR D (gT cy) [(q 0, eCli (gb (J)) (q 1) (q 3) (q 5) (q 7) dc (q 8) (q 9) k)])) (va_Sr (fun k9 => k9 = q 5) Value.ref) 0 0 (fun _ => False) := by
  refine gM_a (cc := cX1_serverCache) (maxL := 1) (by decide) rfl (Nat.le_of_ble_eq_true rfl) ?_
  intro pp ee ss mm bw mt cd QQ ls hfx hP hG hret hl
  obtain ⟨hx, hb, hml, hown, hts, hlocks⟩ := hfx
  have hown : ss.vm.findClass RX1 = some mm.cls := hown
  have hl : lv_has ls 1 [(0, .ref (q 0))] := hl
  refine lv_aload_n hx hb dX1_serverCache_0 rfl (lv_at hl 0 rfl) ?_
  refine va_get (D := D) (ci := 1) (v := .ref (q 5)) (C := RX1) (T := TX1) (N := 9) hx hb hts iX1_serverCache_X1 hown hG.1 hP 0 rfl rfl 3 (by decide) (hts (.fieldLink RX1 29 "DirtyTiles$Client" "serverCache" "LDirtyTiles$Cache;") (by decide +kernel)) (fun _ h9 => h9) rfl dX1_serverCache_1 ?_
  exact hret _ _ dX1_serverCache_4
theorem iX1_dirtyCount_X1 : ∀ w ∈ wsX10, w ∈ wsX1_dirtyCount := by decide +kernel
set_option maxHeartbeats 4000000 in
set_option maxRecDepth 100000 in
theorem c_X1_dirtyCount (l : Launch) (D : va_G) (cy : Nat → ClassId) (q : Nat → Nat) (J : Prop) (dc k : Int32)  : Met l yX1_dirtyCount wsX1_dirtyCount ({ frames := 0, cells := 0, slots := 0, locals := 0 } : Room) (va_Pc [.ref (q 0)] (gR D (gT cy) [(q 0, eCli (gb (J)) (q 1) (q 3) (q 5) (q 7) dc (q 8) (q 9) k)])) (vp_Si (fun r9 => r9 = dc)) 0 0 (fun _ => False) := by
  refine gM_i (cc := cX1_dirtyCount) (maxL := 1) (ty := .int) (by decide) rfl (Nat.le_of_ble_eq_true rfl) (fun v hv => by rw [hv]; first | rfl | exact gb_nar _) ?_
  intro pp ee ss mm bw mt cd QQ ls hfx hP hG hret hl
  obtain ⟨hx, hb, hml, hown, hts, hlocks⟩ := hfx
  have hown : ss.vm.findClass RX1 = some mm.cls := hown
  have hl : lv_has ls 1 [(0, .ref (q 0))] := hl
  refine lv_aload_n hx hb dX1_dirtyCount_0 rfl (lv_at hl 0 rfl) ?_
  refine va_get (D := D) (ci := 1) (v := .int dc) (C := RX1) (T := TX1) (N := 9) hx hb hts iX1_dirtyCount_X1 hown hG.1 hP 0 rfl rfl 5 (by decide) (hts (.fieldLink RX1 36 "DirtyTiles$Client" "dirtyCount" "I") (by decide +kernel)) (fun _ h9 => h9) rfl dX1_dirtyCount_1 ?_
  exact hret _ _ _ dX1_dirtyCount_4 rfl
theorem iX1_messageCount_X1 : ∀ w ∈ wsX10, w ∈ wsX1_messageCount := by decide +kernel
set_option maxHeartbeats 4000000 in
set_option maxRecDepth 100000 in
theorem c_X1_messageCount (l : Launch) (D : va_G) (cy : Nat → ClassId) (q : Nat → Nat) (J : Prop) (dc k : Int32)  : Met l yX1_messageCount wsX1_messageCount ({ frames := 0, cells := 0, slots := 0, locals := 0 } : Room) (va_Pc [.ref (q 0)] (gR D (gT cy) [(q 0, eCli (gb (J)) (q 1) (q 3) (q 5) (q 7) dc (q 8) (q 9) k)])) (vp_Si (fun r9 => r9 = k)) 0 0 (fun _ => False) := by
  refine gM_i (cc := cX1_messageCount) (maxL := 1) (ty := .int) (by decide) rfl (Nat.le_of_ble_eq_true rfl) (fun v hv => by rw [hv]; first | rfl | exact gb_nar _) ?_
  intro pp ee ss mm bw mt cd QQ ls hfx hP hG hret hl
  obtain ⟨hx, hb, hml, hown, hts, hlocks⟩ := hfx
  have hown : ss.vm.findClass RX1 = some mm.cls := hown
  have hl : lv_has ls 1 [(0, .ref (q 0))] := hl
  refine lv_aload_n hx hb dX1_messageCount_0 rfl (lv_at hl 0 rfl) ?_
  refine va_get (D := D) (ci := 1) (v := .int k) (C := RX1) (T := TX1) (N := 9) hx hb hts iX1_messageCount_X1 hown hG.1 hP 0 rfl rfl 8 (by decide) (hts (.fieldLink RX1 47 "DirtyTiles$Client" "messageCount" "I") (by decide +kernel)) (fun _ h9 => h9) rfl dX1_messageCount_1 ?_
  exact hret _ _ _ dX1_messageCount_4 rfl
theorem iX1_hasMessage_X1 : ∀ w ∈ wsX10, w ∈ wsX1_hasMessage := by decide +kernel
set_option maxHeartbeats 4000000 in
set_option maxRecDepth 100000 in
theorem c_X1_hasMessage (l : Launch) (D : va_G) (cy : Nat → ClassId) (q : Nat → Nat) (J : Prop) (dc : Int32) (n : Nat) (hn : n ≤ 12) : Met l yX1_hasMessage wsX1_hasMessage ({ frames := 0, cells := 0, slots := 0, locals := 0 } : Room) (va_Pc [.ref (q 0)] (gR D (gT cy) [(q 0, eCli (gb (J)) (q 1) (q 3) (q 5) (q 7) dc (q 8) (q 9) (nI n))])) (vp_Si (fun r9 => r9 = gb (0 < n))) 0 0 (fun _ => False) := by
  refine gM_i (cc := cX1_hasMessage) (maxL := 1) (ty := .boolean) (by decide) rfl (Nat.le_of_ble_eq_true rfl) (fun v hv => by rw [hv]; first | rfl | exact gb_nar _) ?_
  intro pp ee ss mm bw mt cd QQ ls hfx hP hG hret hl
  obtain ⟨hx, hb, hml, hown, hts, hlocks⟩ := hfx
  have hown : ss.vm.findClass RX1 = some mm.cls := hown
  have hl : lv_has ls 1 [(0, .ref (q 0))] := hl
  refine lv_aload_n hx hb dX1_hasMessage_0 rfl (lv_at hl 0 rfl) ?_
  refine va_get (D := D) (ci := 1) (v := .int (nI n)) (C := RX1) (T := TX1) (N := 9) hx hb hts iX1_hasMessage_X1 hown hG.1 hP 0 rfl rfl 8 (by decide) (hts (.fieldLink RX1 47 "DirtyTiles$Client" "messageCount" "I") (by decide +kernel)) (fun _ h9 => h9) rfl dX1_hasMessage_1 ?_
  refine lv_if_le (tgt := 11) hx hb dX1_hasMessage_4 (by decide) (fun c_4 => ?_) (fun c_4 => ?_)
  · skip
    have c_4 : n ≤ 0 := (nI_leI (a := n) (b := 0) (by omega) (by omega)).mp c_4
    refine lv_iconst (v := nI 0) hx hb dX1_hasMessage_11 (by decide) ?_
    exact hret _ _ _ dX1_hasMessage_12 (by first | exact (gb_t (by omega)).symm | exact (gb_f (by omega)).symm)
  · skip
    have c_4 : ¬ n ≤ 0 := fun z => c_4 ((nI_leI (a := n) (b := 0) (by omega) (by omega)).mpr z)
    refine lv_iconst (v := nI 1) hx hb dX1_hasMessage_7 (by decide) ?_
    refine lv_goto (tgt := 12) hx hb dX1_hasMessage_8 (by decide) ?_
    exact hret _ _ _ dX1_hasMessage_12 (by first | exact (gb_t (by omega)).symm | exact (gb_f (by omega)).symm)
theorem iX1_dirtyTileAt_X1 : ∀ w ∈ wsX10, w ∈ wsX1_dirtyTileAt := by decide +kernel
set_option maxHeartbeats 4000000 in
set_option maxRecDepth 100000 in
theorem c_X1_dirtyTileAt (l : Launch) (D : va_G) (cy : Nat → ClassId) (q : Nat → Nat) (J : Prop) (dc k : Int32) (f : Nat → Int32) (i : Nat) (hi : i < 12) : Met l yX1_dirtyTileAt wsX1_dirtyTileAt ({ frames := 0, cells := 0, slots := 0, locals := 0 } : Room) (va_Pc [.ref (q 0), .int (nI i)] (gR D (gT cy) [(q 0, eCli (gb (J)) (q 1) (q 3) (q 5) (q 7) dc (q 8) (q 9) k), (q 7, eI cy 12 f)])) (vp_Si (fun r9 => r9 = f i)) 0 0 (fun _ => False) := by
  refine gM_i (cc := cX1_dirtyTileAt) (maxL := 2) (ty := .int) (by decide) rfl (Nat.le_of_ble_eq_true rfl) (fun v hv => by rw [hv]; first | rfl | exact gb_nar _) ?_
  intro pp ee ss mm bw mt cd QQ ls hfx hP hG hret hl
  obtain ⟨hx, hb, hml, hown, hts, hlocks⟩ := hfx
  have hown : ss.vm.findClass RX1 = some mm.cls := hown
  have hl : lv_has ls 2 [(0, .ref (q 0)), (1, .int (nI i))] := hl
  refine lv_aload_n hx hb dX1_dirtyTileAt_0 rfl (lv_at hl 0 rfl) ?_
  refine va_get (D := D) (ci := 1) (v := .ref (q 7)) (C := RX1) (T := TX1) (N := 9) hx hb hts iX1_dirtyTileAt_X1 hown hG.1 hP 0 rfl rfl 4 (by decide) (hts (.fieldLink RX1 32 "DirtyTiles$Client" "dirtyTiles" "[I") (by decide +kernel)) (fun _ h9 => h9) rfl dX1_dirtyTileAt_1 ?_
  refine lv_iload_n hx hb dX1_dirtyTileAt_4 rfl (lv_at hl 1 rfl) ?_
  refine g_iald hx hb hG hP 1 0 rfl rfl (k := i) (by omega) (by decide) dX1_dirtyTileAt_5 ?_
  exact hret _ _ _ dX1_dirtyTileAt_6 rfl
theorem iX1_makeDirty_X1 : ∀ w ∈ wsX10, w ∈ wsX1_makeDirty := by decide +kernel
set_option maxHeartbeats 4000000 in
set_option maxRecDepth 100000 in
theorem c_X1_makeDirty (l : Launch) (D : va_G) (cy : Nat → ClassId) (sz : Nat) (q : Nat → Nat) (J : Prop) (k : Int32) (L : List Nat) (f : Nat → Int32) (t : Nat) (hL : hN L f) (ho : okD L) (ht : t < 12) : Met l yX1_makeDirty wsX1_makeDirty ({ frames := 0, cells := 0, slots := 0, locals := 0 } : Room) (va_Pc [.ref (q 0), .int (nI t)] (gI D (gT cy) [(q 0, eCli (gb (J)) (q 1) (q 3) (q 5) (q 7) (nI L.length) (q 8) (q 9) k), (q 7, eI cy 12 f)] sz)) (va_Qv (fun u : (List Nat) × (Nat → Int32) => u.1 = soil L t ∧ (hN (soil L t) u.2)) (gO D (fun u : (List Nat) × (Nat → Int32) => [(q 0, eCli (gb (J)) (q 1) (q 3) (q 5) (q 7) (nI u.1.length) (q 8) (q 9) k), (q 7, eI cy 12 u.2)]) (va_A [(q 0, eCli (gb (J)) (q 1) (q 3) (q 5) (q 7) (nI L.length) (q 8) (q 9) k), (q 7, eI cy 12 f)] sz)) (va_A [(q 0, eCli (gb (J)) (q 1) (q 3) (q 5) (q 7) (nI L.length) (q 8) (q 9) k), (q 7, eI cy 12 f)] sz)) 0 0 (va_A [(q 0, eCli (gb (J)) (q 1) (q 3) (q 5) (q 7) (nI L.length) (q 8) (q 9) k), (q 7, eI cy 12 f)] sz) := by
  refine gW_v (cc := cX1_makeDirty) (maxL := 3) (by decide) rfl (Nat.le_of_ble_eq_true rfl) ?_
  intro pp ee ss mm bw mt cd QQ AA ls hfx hP hG hD hA hret hl
  have hS : va_S AA ss.heap ss.heap [] := va_S.rf
  obtain ⟨H, eH⟩ : ∃ H, H = ss.heap := ⟨_, rfl⟩
  obtain ⟨locs, eL⟩ : ∃ L : List Loc, L = [] := ⟨_, rfl⟩
  have hP : va_P D vwCl [(q 0, eCli (gb (J)) (q 1) (q 3) (q 5) (q 7) (nI L.length) (q 8) (q 9) k), (q 7, eI cy 12 f)] H := by rw [eH]; exact hP
  have hS : va_S AA ss.heap H locs := by rw [eH, eL]; exact hS
  have goal : ∀ X Y, X = H → Y = locs → W pp l ee ({ frames := 0, cells := 0, slots := 0, locals := 0 } : Room) ss mm ([.ref (q 0), .int (nI t)] : List Value).toArray bw mt cd X Y 0 0 QQ (F0 mm 0 ls []) → W pp l ee ({ frames := 0, cells := 0, slots := 0, locals := 0 } : Room) ss mm ([.ref (q 0), .int (nI t)] : List Value).toArray bw mt cd ss.heap [] 0 0 QQ (F0 mm 0 ls []) := fun X Y hX hY h => by rw [hX, hY, eH, eL] at h; exact h
  refine goal H locs rfl rfl ?_
  clear goal eH eL
  obtain ⟨hx, hb, hml, hown, hts, hlocks⟩ := hfx
  have hown : ss.vm.findClass RX1 = some mm.cls := hown
  have hl : lv_has ls 3 [(0, .ref (q 0)), (1, .int (nI t))] := hl
  have z1 := okD_len ho
  refine lv_iconst (v := nI 0) hx hb dX1_makeDirty_0 (by decide) ?_
  refine lv_istore_n (lv' := [(2, .int (nI 0)), (0, .ref (q 0)), (1, .int (nI t))]) hx hb dX1_makeDirty_1 rfl hl (by decide) rfl (fun ls hl => ?_)
  have loop_2 : ∀ (n9 : Nat) (i : Nat), L.length - i < n9 → (i ≤ L.length) → (∀ j, j < i → L.getD j 0 ≠ t) → ∀ (H : Heap) (locs : List Loc) (ls : Array Slot), va_P D vwCl [(q 0, eCli (gb (J)) (q 1) (q 3) (q 5) (q 7) (nI L.length) (q 8) (q 9) k), (q 7, eI cy 12 f)] H → va_D AA [(q 0, eCli (gb (J)) (q 1) (q 3) (q 5) (q 7) (nI L.length) (q 8) (q 9) k), (q 7, eI cy 12 f)] → va_S AA ss.heap H locs → lv_has ls 3 [(0, .ref (q 0)), (1, .int (nI t)), (2, .int (nI i))] → W pp l ee ({ frames := 0, cells := 0, slots := 0, locals := 0 } : Room) ss mm ([.ref (q 0), .int (nI t)] : List Value).toArray bw mt cd H locs 0 0 QQ (F0 mm 2 ls []) := by
    intro n9
    induction n9 with
    | zero => intro i h9; exact absurd h9 (Nat.not_lt_zero _)
    | succ n9 ih_2 =>
      intro i hm_2 hi hno H locs ls hP hD hS hl
      refine lv_iload_n hx hb dX1_makeDirty_2 rfl (lv_at hl 2 rfl) ?_
      refine lv_aload_n hx hb dX1_makeDirty_3 rfl (lv_at hl 0 rfl) ?_
      refine va_get (D := D) (ci := 1) (v := .int (nI L.length)) (C := RX1) (T := TX1) (N := 9) hx hb hts iX1_makeDirty_X1 hown hG.1 hP 0 rfl rfl 5 (by decide) (hts (.fieldLink RX1 36 "DirtyTiles$Client" "dirtyCount" "I") (by decide +kernel)) (fun _ h9 => h9) rfl dX1_makeDirty_4 ?_
      refine lv_icmp_ge (tgt := 27) hx hb dX1_makeDirty_7 (by decide) (fun c_7 => ?_) (fun c_7 => ?_)
      · skip
        have c_7 : L.length ≤ i := (nI_leI (a := L.length) (b := i) (by omega) (by omega)).mp c_7
        have e9 : soil L t = L ++ [t] := soil_out (fun j hj => hno j (by omega))
        have z2 := okD_room ho ht e9
        refine lv_aload_n hx hb dX1_makeDirty_27 rfl (lv_at hl 0 rfl) ?_
        refine va_get (D := D) (ci := 1) (v := .int (nI L.length)) (C := RX1) (T := TX1) (N := 9) hx hb hts iX1_makeDirty_X1 hown hG.1 hP 0 rfl rfl 5 (by decide) (hts (.fieldLink RX1 36 "DirtyTiles$Client" "dirtyCount" "I") (by decide +kernel)) (fun _ h9 => h9) rfl dX1_makeDirty_28 ?_
        refine lv_bipush (v := nI 12) hx hb dX1_makeDirty_31 (by decide) ?_
        refine lv_icmp_ge (tgt := 56) hx hb dX1_makeDirty_33 (by decide) (fun c_33 => ?_) (fun c_33 => ?_)
        · skip
          have c_33 : 12 ≤ L.length := (nI_leI (a := 12) (b := L.length) (by omega) (by omega)).mp c_33
          exact absurd c_33 (by omega)
        · skip
          have c_33 : ¬ 12 ≤ L.length := fun z => c_33 ((nI_leI (a := 12) (b := L.length) (by omega) (by omega)).mpr z)
          refine lv_aload_n hx hb dX1_makeDirty_36 rfl (lv_at hl 0 rfl) ?_
          refine va_get (D := D) (ci := 1) (v := .ref (q 7)) (C := RX1) (T := TX1) (N := 9) hx hb hts iX1_makeDirty_X1 hown hG.1 hP 0 rfl rfl 4 (by decide) (hts (.fieldLink RX1 32 "DirtyTiles$Client" "dirtyTiles" "[I") (by decide +kernel)) (fun _ h9 => h9) rfl dX1_makeDirty_37 ?_
          refine lv_aload_n hx hb dX1_makeDirty_40 rfl (lv_at hl 0 rfl) ?_
          refine va_get (D := D) (ci := 1) (v := .int (nI L.length)) (C := RX1) (T := TX1) (N := 9) hx hb hts iX1_makeDirty_X1 hown hG.1 hP 0 rfl rfl 5 (by decide) (hts (.fieldLink RX1 36 "DirtyTiles$Client" "dirtyCount" "I") (by decide +kernel)) (fun _ h9 => h9) rfl dX1_makeDirty_41 ?_
          refine lv_iload_n hx hb dX1_makeDirty_44 rfl (lv_at hl 1 rfl) ?_
          refine g_iast hx hb hG hP hD hS 1 0 rfl rfl (k := L.length) (by omega) (by decide) dX1_makeDirty_45 (fun H locs hP hD hS => ?_)
          have hP : va_P D vwCl [(q 0, eCli (gb (J)) (q 1) (q 3) (q 5) (q 7) (nI L.length) (q 8) (q 9) k), (q 7, eI cy 12 (upd f L.length (nI t)))] H := hP
          have hD : va_D AA [(q 0, eCli (gb (J)) (q 1) (q 3) (q 5) (q 7) (nI L.length) (q 8) (q 9) k), (q 7, eI cy 12 (upd f L.length (nI t)))] := hD
          refine lv_aload_n hx hb dX1_makeDirty_46 rfl (lv_at hl 0 rfl) ?_
          refine lv_dup hx hb dX1_makeDirty_47 rfl ?_
          refine va_get (D := D) (ci := 1) (v := .int (nI L.length)) (C := RX1) (T := TX1) (N := 9) hx hb hts iX1_makeDirty_X1 hown hG.1 hP 0 rfl rfl 5 (by decide) (hts (.fieldLink RX1 36 "DirtyTiles$Client" "dirtyCount" "I") (by decide +kernel)) (fun _ h9 => h9) rfl dX1_makeDirty_48 ?_
          refine lv_iconst (v := nI 1) hx hb dX1_makeDirty_51 (by decide) ?_
          refine lv_iadd hx hb dX1_makeDirty_52 ?_
          refine g_ti (y := nI (L.length + 1)) (nI_add _ _) ?_
          refine va_put (D := D) (ci := 1) (v := .int (nI (L.length + 1))) (ty := .int) (C := RX1) (T := TX1) (N := 9) hx hb hts iX1_makeDirty_X1 tyX1 tyX1_ok nmX1 hown hG.1 hP hD hS 0 rfl rfl 5 (by decide) (hts (.fieldLink RX1 36 "DirtyTiles$Client" "dirtyCount" "I") (by decide +kernel)) (fun _ h9 => h9) rfl (by decide +kernel) rfl rfl (Nat.le_of_ble_eq_true rfl) dX1_makeDirty_53 (fun H locs hP hD hS => ?_)
          have hP : va_P D vwCl [(q 0, eCli (gb (J)) (q 1) (q 3) (q 5) (q 7) (nI (L.length + 1)) (q 8) (q 9) k), (q 7, eI cy 12 (upd f L.length (nI t)))] H := hP
          have hD : va_D AA [(q 0, eCli (gb (J)) (q 1) (q 3) (q 5) (q 7) (nI (L.length + 1)) (q 8) (q 9) k), (q 7, eI cy 12 (upd f L.length (nI t)))] := hD
          have z3 : (L ++ [t]).length = L.length + 1 := by rw [List.length_append, List.length_singleton]
          rw [← z3] at hP hD
          exact hret _ _ _ _ ⟨L ++ [t], upd f L.length (nI t)⟩ dX1_makeDirty_56 (⟨e9.symm, by rw [e9]; exact hN_app hL⟩) (hP.sub [0, 1] rfl) (hD.sub [0, 1] (by decide) rfl) hS
      · skip
        have c_7 : ¬ L.length ≤ i := fun z => c_7 ((nI_leI (a := L.length) (b := i) (by omega) (by omega)).mpr z)
        refine lv_aload_n hx hb dX1_makeDirty_10 rfl (lv_at hl 0 rfl) ?_
        refine va_get (D := D) (ci := 1) (v := .ref (q 7)) (C := RX1) (T := TX1) (N := 9) hx hb hts iX1_makeDirty_X1 hown hG.1 hP 0 rfl rfl 4 (by decide) (hts (.fieldLink RX1 32 "DirtyTiles$Client" "dirtyTiles" "[I") (by decide +kernel)) (fun _ h9 => h9) rfl dX1_makeDirty_11 ?_
        refine lv_iload_n hx hb dX1_makeDirty_14 rfl (lv_at hl 2 rfl) ?_
        refine g_iald hx hb hG hP 1 0 rfl rfl (k := i) (by omega) (by decide) dX1_makeDirty_15 ?_
        refine g_ti (y := nI (L.getD i 0)) (hL i (by omega)) ?_
        refine lv_iload_n hx hb dX1_makeDirty_16 rfl (lv_at hl 1 rfl) ?_
        refine lv_icmp_ne (tgt := 21) hx hb dX1_makeDirty_17 (by decide) (fun c_17 => ?_) (fun c_17 => ?_)
        · skip
          have c_17 : ¬ (L.getD i 0) = t := fun z => c_17 ((nI_eq (a := (L.getD i 0)) (b := t) (by have := okD_get ho (i := i) (by omega); omega) (by omega)).mpr z)
          refine lv_iinc (v := nI (i + 1)) (lv' := [(2, .int (nI (i + 1))), (0, .ref (q 0)), (1, .int (nI t))]) hx hb dX1_makeDirty_21 hl (k := 2) rfl (nI_1 _) (by decide) rfl (fun ls hl => ?_)
          refine lv_goto (tgt := 2) hx hb dX1_makeDirty_24 (by decide) ?_
          exact ih_2 (i + 1) (by omega) (by omega) (lt_s hno c_17) _ _ _ (hP.sub [0, 1] rfl) (hD.sub [0, 1] (by decide) rfl) hS (lv_sub hl [1, 2, 0] rfl)
        · skip
          have c_17 : (L.getD i 0) = t := (nI_eq (a := (L.getD i 0)) (b := t) (by have := okD_get ho (i := i) (by omega); omega) (by omega)).mp c_17
          have e9 : soil L t = L := soil_in (i := i) (by omega) c_17
          exact hret _ _ _ _ ⟨L, f⟩ dX1_makeDirty_20 (⟨e9.symm, by rw [e9]; exact hL⟩) (hP.sub [0, 1] rfl) (hD.sub [0, 1] (by decide) rfl) hS
  exact loop_2 ((L.length - 0) + 1) 0 (Nat.lt_succ_self _) (by omega) (fun j hj => absurd hj (Nat.not_lt_zero j)) _ _ _ (hP.sub [0, 1] rfl) (hD.sub [0, 1] (by decide) rfl) hS (lv_sub hl [1, 2, 0] rfl)
theorem iX1_addToMessage_X1 : ∀ w ∈ wsX10, w ∈ wsX1_addToMessage := by decide +kernel
set_option maxHeartbeats 4000000 in
set_option maxRecDepth 100000 in
theorem c_X1_addToMessage (l : Launch) (D : va_G) (cy : Nat → ClassId) (sz : Nat) (q : Nat → Nat) (J : Prop) (dc : Int32) (M : List (Nat × Int64)) (ft : Nat → Int32) (fm : Nat → Int64) (L : List Int64) (f : Nat → Int64) (t : Nat) (x : Int64) (hm9 : hM M ft fm) (hn : M.length < 12) (hf : hC L f) (hL : L.length ≤ 6) : Met l yX1_addToMessage wsX1_addToMessage ({ frames := 2, cells := 0, slots := 0, locals := 54 } : Room) (va_Pc [.ref (q 0), .int (nI t), .long x] (gI D (gT cy) [(q 0, eCli (gb (J)) (q 1) (q 3) (q 5) (q 7) dc (q 8) (q 9) (nI M.length)), (q 5, eCch (q 6) (nI L.length)), (q 6, eJ cy 6 f), (q 8, eI cy 12 ft), (q 9, eJ cy 12 fm)] sz)) (va_Qv (fun u : (Nat → Int64) × (Nat → Int32) × (Nat → Int64) => (hC (brg L x) u.1 ∧ hM (M ++ [(t, x)]) u.2.1 u.2.2)) (gO D (fun u : (Nat → Int64) × (Nat → Int32) × (Nat → Int64) => [(q 0, eCli (gb (J)) (q 1) (q 3) (q 5) (q 7) dc (q 8) (q 9) (nI (M.length + 1))), (q 5, eCch (q 6) (nI (brg L x).length)), (q 6, eJ cy 6 u.1), (q 8, eI cy 12 u.2.1), (q 9, eJ cy 12 u.2.2)]) (va_A [(q 0, eCli (gb (J)) (q 1) (q 3) (q 5) (q 7) dc (q 8) (q 9) (nI M.length)), (q 5, eCch (q 6) (nI L.length)), (q 6, eJ cy 6 f), (q 8, eI cy 12 ft), (q 9, eJ cy 12 fm)] sz)) (va_A [(q 0, eCli (gb (J)) (q 1) (q 3) (q 5) (q 7) dc (q 8) (q 9) (nI M.length)), (q 5, eCch (q 6) (nI L.length)), (q 6, eJ cy 6 f), (q 8, eI cy 12 ft), (q 9, eJ cy 12 fm)] sz)) 0 0 (va_A [(q 0, eCli (gb (J)) (q 1) (q 3) (q 5) (q 7) dc (q 8) (q 9) (nI M.length)), (q 5, eCch (q 6) (nI L.length)), (q 6, eJ cy 6 f), (q 8, eI cy 12 ft), (q 9, eJ cy 12 fm)] sz) := by
  refine gW_v (cc := cX1_addToMessage) (maxL := 4) (by decide) rfl (Nat.le_of_ble_eq_true rfl) ?_
  intro pp ee ss mm bw mt cd QQ AA ls hfx hP hG hD hA hret hl
  have hS : va_S AA ss.heap ss.heap [] := va_S.rf
  obtain ⟨H, eH⟩ : ∃ H, H = ss.heap := ⟨_, rfl⟩
  obtain ⟨locs, eL⟩ : ∃ L : List Loc, L = [] := ⟨_, rfl⟩
  have hP : va_P D vwCl [(q 0, eCli (gb (J)) (q 1) (q 3) (q 5) (q 7) dc (q 8) (q 9) (nI M.length)), (q 5, eCch (q 6) (nI L.length)), (q 6, eJ cy 6 f), (q 8, eI cy 12 ft), (q 9, eJ cy 12 fm)] H := by rw [eH]; exact hP
  have hS : va_S AA ss.heap H locs := by rw [eH, eL]; exact hS
  have goal : ∀ X Y, X = H → Y = locs → W pp l ee ({ frames := 2, cells := 0, slots := 0, locals := 54 } : Room) ss mm ([.ref (q 0), .int (nI t), .long x] : List Value).toArray bw mt cd X Y 0 0 QQ (F0 mm 0 ls []) → W pp l ee ({ frames := 2, cells := 0, slots := 0, locals := 54 } : Room) ss mm ([.ref (q 0), .int (nI t), .long x] : List Value).toArray bw mt cd ss.heap [] 0 0 QQ (F0 mm 0 ls []) := fun X Y hX hY h => by rw [hX, hY, eH, eL] at h; exact h
  refine goal H locs rfl rfl ?_
  clear goal eH eL
  obtain ⟨hx, hb, hml, hown, hts, hlocks⟩ := hfx
  have hown : ss.vm.findClass RX1 = some mm.cls := hown
  have hl : lv_has ls 4 [(0, .ref (q 0)), (1, .int (nI t)), (2, .long x)] := hl
  refine lv_aload_n hx hb dX1_addToMessage_0 rfl (lv_at hl 0 rfl) ?_
  refine va_get (D := D) (ci := 1) (v := .int (nI M.length)) (C := RX1) (T := TX1) (N := 9) hx hb hts iX1_addToMessage_X1 hown hG.1 hP 0 rfl rfl 8 (by decide) (hts (.fieldLink RX1 47 "DirtyTiles$Client" "messageCount" "I") (by decide +kernel)) (fun _ h9 => h9) rfl dX1_addToMessage_1 ?_
  refine lv_bipush (v := nI 12) hx hb dX1_addToMessage_4 (by decide) ?_
  refine lv_icmp_ge (tgt := 39) hx hb dX1_addToMessage_6 (by decide) (fun c_6 => ?_) (fun c_6 => ?_)
  · skip
    have c_6 : 12 ≤ M.length := (nI_leI (a := 12) (b := M.length) (by omega) (by omega)).mp c_6
    exact absurd c_6 (by omega)
  · skip
    have c_6 : ¬ 12 ≤ M.length := fun z => c_6 ((nI_leI (a := 12) (b := M.length) (by omega) (by omega)).mpr z)
    refine lv_aload_n hx hb dX1_addToMessage_9 rfl (lv_at hl 0 rfl) ?_
    refine va_get (D := D) (ci := 1) (v := .ref (q 8)) (C := RX1) (T := TX1) (N := 9) hx hb hts iX1_addToMessage_X1 hown hG.1 hP 0 rfl rfl 6 (by decide) (hts (.fieldLink RX1 40 "DirtyTiles$Client" "messageTiles" "[I") (by decide +kernel)) (fun _ h9 => h9) rfl dX1_addToMessage_10 ?_
    refine lv_aload_n hx hb dX1_addToMessage_13 rfl (lv_at hl 0 rfl) ?_
    refine va_get (D := D) (ci := 1) (v := .int (nI M.length)) (C := RX1) (T := TX1) (N := 9) hx hb hts iX1_addToMessage_X1 hown hG.1 hP 0 rfl rfl 8 (by decide) (hts (.fieldLink RX1 47 "DirtyTiles$Client" "messageCount" "I") (by decide +kernel)) (fun _ h9 => h9) rfl dX1_addToMessage_14 ?_
    refine lv_iload_n hx hb dX1_addToMessage_17 rfl (lv_at hl 1 rfl) ?_
    refine g_iast hx hb hG hP hD hS 3 0 rfl rfl (k := M.length) (by omega) (by decide) dX1_addToMessage_18 (fun H locs hP hD hS => ?_)
    have hP : va_P D vwCl [(q 0, eCli (gb (J)) (q 1) (q 3) (q 5) (q 7) dc (q 8) (q 9) (nI M.length)), (q 5, eCch (q 6) (nI L.length)), (q 6, eJ cy 6 f), (q 8, eI cy 12 (upd ft M.length (nI t))), (q 9, eJ cy 12 fm)] H := hP
    have hD : va_D AA [(q 0, eCli (gb (J)) (q 1) (q 3) (q 5) (q 7) dc (q 8) (q 9) (nI M.length)), (q 5, eCch (q 6) (nI L.length)), (q 6, eJ cy 6 f), (q 8, eI cy 12 (upd ft M.length (nI t))), (q 9, eJ cy 12 fm)] := hD
    refine lv_aload_n hx hb dX1_addToMessage_19 rfl (lv_at hl 0 rfl) ?_
    refine va_get (D := D) (ci := 1) (v := .ref (q 9)) (C := RX1) (T := TX1) (N := 9) hx hb hts iX1_addToMessage_X1 hown hG.1 hP 0 rfl rfl 7 (by decide) (hts (.fieldLink RX1 43 "DirtyTiles$Client" "messageCells" "[J") (by decide +kernel)) (fun _ h9 => h9) rfl dX1_addToMessage_20 ?_
    refine lv_aload_n hx hb dX1_addToMessage_23 rfl (lv_at hl 0 rfl) ?_
    refine va_get (D := D) (ci := 1) (v := .int (nI M.length)) (C := RX1) (T := TX1) (N := 9) hx hb hts iX1_addToMessage_X1 hown hG.1 hP 0 rfl rfl 8 (by decide) (hts (.fieldLink RX1 47 "DirtyTiles$Client" "messageCount" "I") (by decide +kernel)) (fun _ h9 => h9) rfl dX1_addToMessage_24 ?_
    refine lv_lload_n hx hb dX1_addToMessage_27 rfl (lv_at hl 2 rfl) ?_
    refine g_last hx hb hG hP hD hS 4 1 rfl rfl (k := M.length) (by omega) (by decide) dX1_addToMessage_28 (fun H locs hP hD hS => ?_)
    have hP : va_P D vwCl [(q 0, eCli (gb (J)) (q 1) (q 3) (q 5) (q 7) dc (q 8) (q 9) (nI M.length)), (q 5, eCch (q 6) (nI L.length)), (q 6, eJ cy 6 f), (q 8, eI cy 12 (upd ft M.length (nI t))), (q 9, eJ cy 12 (vp_updL fm M.length x))] H := hP
    have hD : va_D AA [(q 0, eCli (gb (J)) (q 1) (q 3) (q 5) (q 7) dc (q 8) (q 9) (nI M.length)), (q 5, eCch (q 6) (nI L.length)), (q 6, eJ cy 6 f), (q 8, eI cy 12 (upd ft M.length (nI t))), (q 9, eJ cy 12 (vp_updL fm M.length x))] := hD
    refine lv_aload_n hx hb dX1_addToMessage_29 rfl (lv_at hl 0 rfl) ?_
    refine lv_dup hx hb dX1_addToMessage_30 rfl ?_
    refine va_get (D := D) (ci := 1) (v := .int (nI M.length)) (C := RX1) (T := TX1) (N := 9) hx hb hts iX1_addToMessage_X1 hown hG.1 hP 0 rfl rfl 8 (by decide) (hts (.fieldLink RX1 47 "DirtyTiles$Client" "messageCount" "I") (by decide +kernel)) (fun _ h9 => h9) rfl dX1_addToMessage_31 ?_
    refine lv_iconst (v := nI 1) hx hb dX1_addToMessage_34 (by decide) ?_
    refine lv_iadd hx hb dX1_addToMessage_35 ?_
    refine g_ti (y := nI (M.length + 1)) (nI_add _ _) ?_
    refine va_put (D := D) (ci := 1) (v := .int (nI (M.length + 1))) (ty := .int) (C := RX1) (T := TX1) (N := 9) hx hb hts iX1_addToMessage_X1 tyX1 tyX1_ok nmX1 hown hG.1 hP hD hS 0 rfl rfl 8 (by decide) (hts (.fieldLink RX1 47 "DirtyTiles$Client" "messageCount" "I") (by decide +kernel)) (fun _ h9 => h9) rfl (by decide +kernel) rfl rfl (Nat.le_of_ble_eq_true rfl) dX1_addToMessage_36 (fun H locs hP hD hS => ?_)
    have hP : va_P D vwCl [(q 0, eCli (gb (J)) (q 1) (q 3) (q 5) (q 7) dc (q 8) (q 9) (nI (M.length + 1))), (q 5, eCch (q 6) (nI L.length)), (q 6, eJ cy 6 f), (q 8, eI cy 12 (upd ft M.length (nI t))), (q 9, eJ cy 12 (vp_updL fm M.length x))] H := hP
    have hD : va_D AA [(q 0, eCli (gb (J)) (q 1) (q 3) (q 5) (q 7) dc (q 8) (q 9) (nI (M.length + 1))), (q 5, eCch (q 6) (nI L.length)), (q 6, eJ cy 6 f), (q 8, eI cy 12 (upd ft M.length (nI t))), (q 9, eJ cy 12 (vp_updL fm M.length x))] := hD
    refine lv_aload_n hx hb dX1_addToMessage_39 rfl (lv_at hl 0 rfl) ?_
    refine va_get (D := D) (ci := 1) (v := .ref (q 5)) (C := RX1) (T := TX1) (N := 9) hx hb hts iX1_addToMessage_X1 hown hG.1 hP 0 rfl rfl 3 (by decide) (hts (.fieldLink RX1 29 "DirtyTiles$Client" "serverCache" "LDirtyTiles$Cache;") (by decide +kernel)) (fun _ h9 => h9) rfl dX1_addToMessage_40 ?_
    refine lv_lload_n hx hb dX1_addToMessage_43 rfl (lv_at hl 2 rfl) ?_
    refine gc_Wv (wn := fun u => [(q 0, eCli (gb (J)) (q 1) (q 3) (q 5) (q 7) dc (q 8) (q 9) (nI (M.length + 1))), (q 5, eCch (q 6) (nI (brg L x).length)), (q 6, eJ cy 6 u), (q 8, eI cy 12 (upd ft M.length (nI t))), (q 9, eJ cy 12 (vp_updL fm M.length x))]) (wr := [(q 0, eCli (gb (J)) (q 1) (q 3) (q 5) (q 7) dc (q 8) (q 9) (nI (M.length + 1))), (q 8, eI cy 12 (upd ft M.length (nI t))), (q 9, eJ cy 12 (vp_updL fm M.length x))]) (va_runV (As := [.long x]) (rest := []) ⟨hx, hb, hml, hown, hts⟩ (c_X0_bringToFront l D cy H.size (q 5) (q 6) L f x hf hL) (cwV 1 hts gX1_addToMessage_X0_bringToFront rfl rfl rfl (by decide +kernel) ⟨Nat.le_of_ble_eq_true rfl, Nat.le_of_ble_eq_true rfl⟩) (gpVI (ci := 0) (q0 := 0) hG (hP.sub [1, 2] rfl) (hD.sub [1, 2] (by decide) rfl) rfl rfl) rfl rfl hl.1 rfl (lv_room (Nat.le_of_ble_eq_true rfl)) dX1_addToMessage_44 ⟨Nat.zero_le _, Nat.zero_le _⟩) hP hD hS hA [1, 2] [0, 3, 4] [0, 3, 4, 1, 2] rfl rfl (by decide) (by decide) (fun _ => rfl) (by decide) (fun f2_44 H locs hw_44 hP hD hS => ?_)
    have hP : va_P D vwCl [(q 0, eCli (gb (J)) (q 1) (q 3) (q 5) (q 7) dc (q 8) (q 9) (nI (M.length + 1))), (q 5, eCch (q 6) (nI (brg L x).length)), (q 6, eJ cy 6 f2_44), (q 8, eI cy 12 (upd ft M.length (nI t))), (q 9, eJ cy 12 (vp_updL fm M.length x))] H := hP
    have hD : va_D AA [(q 0, eCli (gb (J)) (q 1) (q 3) (q 5) (q 7) dc (q 8) (q 9) (nI (M.length + 1))), (q 5, eCch (q 6) (nI (brg L x).length)), (q 6, eJ cy 6 f2_44), (q 8, eI cy 12 (upd ft M.length (nI t))), (q 9, eJ cy 12 (vp_updL fm M.length x))] := hD
    have hw_44 : hC (brg L x) f2_44 := hw_44
    exact hret _ _ _ _ ⟨f2_44, upd ft M.length (nI t), vp_updL fm M.length x⟩ dX1_addToMessage_47 (⟨hw_44, hM_app hm9⟩) (hP.sub [0, 1, 2, 3, 4] rfl) (hD.sub [0, 1, 2, 3, 4] (by decide) rfl) hS
theorem clean_step {n i : Nat} {f g : Nat → Int32} (hi : n ≤ i) (hg : ∀ j, g j = if j + n < i then f (j + n) else f j) : ∀ j, upd g (i - n) (g i) j = if j + n < i + 1 then f (j + n) else f j := by
  intro j
  by_cases e : j = i - n
  · subst e
    rw [pk_us, hg i, if_neg (by omega), if_pos (by omega), Nat.sub_add_cancel hi]
  · rw [pk_un e, hg j]
    by_cases h : j + n < i
    · rw [if_pos h, if_pos (by omega)]
    · rw [if_neg h, if_neg (by omega)]
theorem iX1_cleanTilesOfMessage_X1 : ∀ w ∈ wsX10, w ∈ wsX1_cleanTilesOfMessage := by decide +kernel
set_option maxHeartbeats 4000000 in
set_option maxRecDepth 100000 in
theorem c_X1_cleanTilesOfMessage (l : Launch) (D : va_G) (cy : Nat → ClassId) (sz : Nat) (q : Nat → Nat) (J : Prop) (n d : Nat) (f : Nat → Int32) (hn : n ≤ d) (hd : d ≤ 12) : Met l yX1_cleanTilesOfMessage wsX1_cleanTilesOfMessage ({ frames := 0, cells := 0, slots := 0, locals := 0 } : Room) (va_Pc [.ref (q 0)] (gI D (gT cy) [(q 0, eCli (gb (J)) (q 1) (q 3) (q 5) (q 7) (nI d) (q 8) (q 9) (nI n)), (q 7, eI cy 12 f)] sz)) (va_Qv (fun u : (Nat → Int32) => (∀ j, j + n < d → u j = f (j + n))) (gO D (fun u : (Nat → Int32) => [(q 0, eCli (gb (J)) (q 1) (q 3) (q 5) (q 7) (nI (d - n)) (q 8) (q 9) (nI n)), (q 7, eI cy 12 u)]) (va_A [(q 0, eCli (gb (J)) (q 1) (q 3) (q 5) (q 7) (nI d) (q 8) (q 9) (nI n)), (q 7, eI cy 12 f)] sz)) (va_A [(q 0, eCli (gb (J)) (q 1) (q 3) (q 5) (q 7) (nI d) (q 8) (q 9) (nI n)), (q 7, eI cy 12 f)] sz)) 0 0 (va_A [(q 0, eCli (gb (J)) (q 1) (q 3) (q 5) (q 7) (nI d) (q 8) (q 9) (nI n)), (q 7, eI cy 12 f)] sz) := by
  refine gW_v (cc := cX1_cleanTilesOfMessage) (maxL := 2) (by decide) rfl (Nat.le_of_ble_eq_true rfl) ?_
  intro pp ee ss mm bw mt cd QQ AA ls hfx hP hG hD hA hret hl
  have hS : va_S AA ss.heap ss.heap [] := va_S.rf
  obtain ⟨H, eH⟩ : ∃ H, H = ss.heap := ⟨_, rfl⟩
  obtain ⟨locs, eL⟩ : ∃ L : List Loc, L = [] := ⟨_, rfl⟩
  have hP : va_P D vwCl [(q 0, eCli (gb (J)) (q 1) (q 3) (q 5) (q 7) (nI d) (q 8) (q 9) (nI n)), (q 7, eI cy 12 f)] H := by rw [eH]; exact hP
  have hS : va_S AA ss.heap H locs := by rw [eH, eL]; exact hS
  have goal : ∀ X Y, X = H → Y = locs → W pp l ee ({ frames := 0, cells := 0, slots := 0, locals := 0 } : Room) ss mm ([.ref (q 0)] : List Value).toArray bw mt cd X Y 0 0 QQ (F0 mm 0 ls []) → W pp l ee ({ frames := 0, cells := 0, slots := 0, locals := 0 } : Room) ss mm ([.ref (q 0)] : List Value).toArray bw mt cd ss.heap [] 0 0 QQ (F0 mm 0 ls []) := fun X Y hX hY h => by rw [hX, hY, eH, eL] at h; exact h
  refine goal H locs rfl rfl ?_
  clear goal eH eL
  obtain ⟨hx, hb, hml, hown, hts, hlocks⟩ := hfx
  have hown : ss.vm.findClass RX1 = some mm.cls := hown
  have hl : lv_has ls 2 [(0, .ref (q 0))] := hl
  refine lv_aload_n hx hb dX1_cleanTilesOfMessage_0 rfl (lv_at hl 0 rfl) ?_
  refine va_get (D := D) (ci := 1) (v := .int (nI n)) (C := RX1) (T := TX1) (N := 9) hx hb hts iX1_cleanTilesOfMessage_X1 hown hG.1 hP 0 rfl rfl 8 (by decide) (hts (.fieldLink RX1 47 "DirtyTiles$Client" "messageCount" "I") (by decide +kernel)) (fun _ h9 => h9) rfl dX1_cleanTilesOfMessage_1 ?_
  refine lv_istore_n (lv' := [(1, .int (nI n)), (0, .ref (q 0))]) hx hb dX1_cleanTilesOfMessage_4 rfl hl (by decide) rfl (fun ls hl => ?_)
  have loop_5 : ∀ (n9 : Nat) (i : Nat) (g : Nat → Int32), d - i < n9 → (n ≤ i ∧ i ≤ d) → (∀ j, g j = if j + n < i then f (j + n) else f j) → ∀ (H : Heap) (locs : List Loc) (ls : Array Slot), va_P D vwCl [(q 0, eCli (gb (J)) (q 1) (q 3) (q 5) (q 7) (nI d) (q 8) (q 9) (nI n)), (q 7, eI cy 12 g)] H → va_D AA [(q 0, eCli (gb (J)) (q 1) (q 3) (q 5) (q 7) (nI d) (q 8) (q 9) (nI n)), (q 7, eI cy 12 g)] → va_S AA ss.heap H locs → lv_has ls 2 [(0, .ref (q 0)), (1, .int (nI i))] → W pp l ee ({ frames := 0, cells := 0, slots := 0, locals := 0 } : Room) ss mm ([.ref (q 0)] : List Value).toArray bw mt cd H locs 0 0 QQ (F0 mm 5 ls []) := by
    intro n9
    induction n9 with
    | zero => intro i g h9; exact absurd h9 (Nat.not_lt_zero _)
    | succ n9 ih_5 =>
      intro i g hm_5 hi hg H locs ls hP hD hS hl
      refine lv_iload_n hx hb dX1_cleanTilesOfMessage_5 rfl (lv_at hl 1 rfl) ?_
      refine lv_aload_n hx hb dX1_cleanTilesOfMessage_6 rfl (lv_at hl 0 rfl) ?_
      refine va_get (D := D) (ci := 1) (v := .int (nI d)) (C := RX1) (T := TX1) (N := 9) hx hb hts iX1_cleanTilesOfMessage_X1 hown hG.1 hP 0 rfl rfl 5 (by decide) (hts (.fieldLink RX1 36 "DirtyTiles$Client" "dirtyCount" "I") (by decide +kernel)) (fun _ h9 => h9) rfl dX1_cleanTilesOfMessage_7 ?_
      refine lv_icmp_ge (tgt := 36) hx hb dX1_cleanTilesOfMessage_10 (by decide) (fun c_10 => ?_) (fun c_10 => ?_)
      · skip
        have c_10 : d ≤ i := (nI_leI (a := d) (b := i) (by omega) (by omega)).mp c_10
        refine lv_aload_n hx hb dX1_cleanTilesOfMessage_36 rfl (lv_at hl 0 rfl) ?_
        refine lv_dup hx hb dX1_cleanTilesOfMessage_37 rfl ?_
        refine va_get (D := D) (ci := 1) (v := .int (nI d)) (C := RX1) (T := TX1) (N := 9) hx hb hts iX1_cleanTilesOfMessage_X1 hown hG.1 hP 0 rfl rfl 5 (by decide) (hts (.fieldLink RX1 36 "DirtyTiles$Client" "dirtyCount" "I") (by decide +kernel)) (fun _ h9 => h9) rfl dX1_cleanTilesOfMessage_38 ?_
        refine lv_aload_n hx hb dX1_cleanTilesOfMessage_41 rfl (lv_at hl 0 rfl) ?_
        refine va_get (D := D) (ci := 1) (v := .int (nI n)) (C := RX1) (T := TX1) (N := 9) hx hb hts iX1_cleanTilesOfMessage_X1 hown hG.1 hP 0 rfl rfl 8 (by decide) (hts (.fieldLink RX1 47 "DirtyTiles$Client" "messageCount" "I") (by decide +kernel)) (fun _ h9 => h9) rfl dX1_cleanTilesOfMessage_42 ?_
        refine lv_isub hx hb dX1_cleanTilesOfMessage_45 ?_
        refine g_ti (y := nI (d - n)) (pk_sub (by omega)) ?_
        refine va_put (D := D) (ci := 1) (v := .int (nI (d - n))) (ty := .int) (C := RX1) (T := TX1) (N := 9) hx hb hts iX1_cleanTilesOfMessage_X1 tyX1 tyX1_ok nmX1 hown hG.1 hP hD hS 0 rfl rfl 5 (by decide) (hts (.fieldLink RX1 36 "DirtyTiles$Client" "dirtyCount" "I") (by decide +kernel)) (fun _ h9 => h9) rfl (by decide +kernel) rfl rfl (Nat.le_of_ble_eq_true rfl) dX1_cleanTilesOfMessage_46 (fun H locs hP hD hS => ?_)
        have hP : va_P D vwCl [(q 0, eCli (gb (J)) (q 1) (q 3) (q 5) (q 7) (nI (d - n)) (q 8) (q 9) (nI n)), (q 7, eI cy 12 g)] H := hP
        have hD : va_D AA [(q 0, eCli (gb (J)) (q 1) (q 3) (q 5) (q 7) (nI (d - n)) (q 8) (q 9) (nI n)), (q 7, eI cy 12 g)] := hD
        exact hret _ _ _ _ g dX1_cleanTilesOfMessage_49 (fun j hj => by rw [hg j, if_pos (by omega)]) (hP.sub [0, 1] rfl) (hD.sub [0, 1] (by decide) rfl) hS
      · skip
        have c_10 : ¬ d ≤ i := fun z => c_10 ((nI_leI (a := d) (b := i) (by omega) (by omega)).mpr z)
        refine lv_aload_n hx hb dX1_cleanTilesOfMessage_13 rfl (lv_at hl 0 rfl) ?_
        refine va_get (D := D) (ci := 1) (v := .ref (q 7)) (C := RX1) (T := TX1) (N := 9) hx hb hts iX1_cleanTilesOfMessage_X1 hown hG.1 hP 0 rfl rfl 4 (by decide) (hts (.fieldLink RX1 32 "DirtyTiles$Client" "dirtyTiles" "[I") (by decide +kernel)) (fun _ h9 => h9) rfl dX1_cleanTilesOfMessage_14 ?_
        refine lv_iload_n hx hb dX1_cleanTilesOfMessage_17 rfl (lv_at hl 1 rfl) ?_
        refine lv_aload_n hx hb dX1_cleanTilesOfMessage_18 rfl (lv_at hl 0 rfl) ?_
        refine va_get (D := D) (ci := 1) (v := .int (nI n)) (C := RX1) (T := TX1) (N := 9) hx hb hts iX1_cleanTilesOfMessage_X1 hown hG.1 hP 0 rfl rfl 8 (by decide) (hts (.fieldLink RX1 47 "DirtyTiles$Client" "messageCount" "I") (by decide +kernel)) (fun _ h9 => h9) rfl dX1_cleanTilesOfMessage_19 ?_
        refine lv_isub hx hb dX1_cleanTilesOfMessage_22 ?_
        refine g_ti (y := nI (i - n)) (pk_sub (by omega)) ?_
        refine lv_aload_n hx hb dX1_cleanTilesOfMessage_23 rfl (lv_at hl 0 rfl) ?_
        refine va_get (D := D) (ci := 1) (v := .ref (q 7)) (C := RX1) (T := TX1) (N := 9) hx hb hts iX1_cleanTilesOfMessage_X1 hown hG.1 hP 0 rfl rfl 4 (by decide) (hts (.fieldLink RX1 32 "DirtyTiles$Client" "dirtyTiles" "[I") (by decide +kernel)) (fun _ h9 => h9) rfl dX1_cleanTilesOfMessage_24 ?_
        refine lv_iload_n hx hb dX1_cleanTilesOfMessage_27 rfl (lv_at hl 1 rfl) ?_
        refine g_iald hx hb hG hP 1 0 rfl rfl (k := i) (by omega) (by decide) dX1_cleanTilesOfMessage_28 ?_
        refine g_iast hx hb hG hP hD hS 1 0 rfl rfl (k := i - n) (by omega) (by decide) dX1_cleanTilesOfMessage_29 (fun H locs hP hD hS => ?_)
        have hP : va_P D vwCl [(q 0, eCli (gb (J)) (q 1) (q 3) (q 5) (q 7) (nI d) (q 8) (q 9) (nI n)), (q 7, eI cy 12 (upd g (i - n) (g i)))] H := hP
        have hD : va_D AA [(q 0, eCli (gb (J)) (q 1) (q 3) (q 5) (q 7) (nI d) (q 8) (q 9) (nI n)), (q 7, eI cy 12 (upd g (i - n) (g i)))] := hD
        refine lv_iinc (v := nI (i + 1)) (lv' := [(1, .int (nI (i + 1))), (0, .ref (q 0))]) hx hb dX1_cleanTilesOfMessage_30 hl (k := 1) rfl (nI_1 _) (by decide) rfl (fun ls hl => ?_)
        refine lv_goto (tgt := 5) hx hb dX1_cleanTilesOfMessage_33 (by decide) ?_
        exact ih_5 (i + 1) (upd g (i - n) (g i)) (by omega) (by omega) (clean_step hi.1 hg) _ _ _ (hP.sub [0, 1] rfl) (hD.sub [0, 1] (by decide) rfl) hS (lv_sub hl [1, 0] rfl)
  exact loop_5 ((d - n) + 1) n f (Nat.lt_succ_self _) (by omega) (fun j => by rw [if_neg (by omega)]) _ _ _ (hP.sub [0, 1] rfl) (hD.sub [0, 1] (by decide) rfl) hS (lv_sub hl [1, 0] rfl)
theorem iX1_takeMessage_X1 : ∀ w ∈ wsX10, w ∈ wsX1_takeMessage := by decide +kernel
set_option maxHeartbeats 4000000 in
set_option maxRecDepth 100000 in
theorem c_X1_takeMessage (l : Launch) (D : va_G) (cy : Nat → ClassId) (sz : Nat) (q : Nat → Nat) (J : Prop) (dc : Int32) (fs : Nat → Int64) (L : List Int64) (f : Nat → Int64) (M : List (Nat × Int64)) (ft : Nat → Int32) (fm : Nat → Int64) (hf : hC L f) (hL : L.length ≤ 6) (hm9 : hM M ft fm) (hn : M.length ≤ 12) (ho : okM M) : Met l yX1_takeMessage wsX1_takeMessage ({ frames := 2, cells := 0, slots := 0, locals := 54 } : Room) (va_Pc [.ref (q 0)] (gI D (gT cy) [(q 0, eCli (gb (J)) (q 1) (q 3) (q 5) (q 7) dc (q 8) (q 9) (nI M.length)), (q 1, eScr (q 2)), (q 2, eJ cy 12 fs), (q 3, eCch (q 4) (nI L.length)), (q 4, eJ cy 6 f), (q 8, eI cy 12 ft), (q 9, eJ cy 12 fm)] sz)) (va_Qi (fun (r9 : Int32) (u : (Nat → Int64) × (List Int64) × (Nat → Int64)) => r9 = nI M.length ∧ (u.1 = scrF M fs ∧ u.2.1 = cchF M L ∧ (hC u.2.1 u.2.2 ∧ u.2.1.length ≤ 6))) (gO D (fun u : (Nat → Int64) × (List Int64) × (Nat → Int64) => [(q 0, eCli (gb (J)) (q 1) (q 3) (q 5) (q 7) dc (q 8) (q 9) (nI 0)), (q 1, eScr (q 2)), (q 2, eJ cy 12 u.1), (q 3, eCch (q 4) (nI u.2.1.length)), (q 4, eJ cy 6 u.2.2), (q 8, eI cy 12 ft), (q 9, eJ cy 12 fm)]) (va_A [(q 0, eCli (gb (J)) (q 1) (q 3) (q 5) (q 7) dc (q 8) (q 9) (nI M.length)), (q 1, eScr (q 2)), (q 2, eJ cy 12 fs), (q 3, eCch (q 4) (nI L.length)), (q 4, eJ cy 6 f), (q 8, eI cy 12 ft), (q 9, eJ cy 12 fm)] sz)) (va_A [(q 0, eCli (gb (J)) (q 1) (q 3) (q 5) (q 7) dc (q 8) (q 9) (nI M.length)), (q 1, eScr (q 2)), (q 2, eJ cy 12 fs), (q 3, eCch (q 4) (nI L.length)), (q 4, eJ cy 6 f), (q 8, eI cy 12 ft), (q 9, eJ cy 12 fm)] sz)) 0 0 (va_A [(q 0, eCli (gb (J)) (q 1) (q 3) (q 5) (q 7) dc (q 8) (q 9) (nI M.length)), (q 1, eScr (q 2)), (q 2, eJ cy 12 fs), (q 3, eCch (q 4) (nI L.length)), (q 4, eJ cy 6 f), (q 8, eI cy 12 ft), (q 9, eJ cy 12 fm)] sz) := by
  refine gW_i (cc := cX1_takeMessage) (maxL := 3) (ty := .int) (by decide) rfl (Nat.le_of_ble_eq_true rfl) (fun v u hv => by rfl) ?_
  intro pp ee ss mm bw mt cd QQ AA ls hfx hP hG hD hA hret hl
  have hS : va_S AA ss.heap ss.heap [] := va_S.rf
  obtain ⟨H, eH⟩ : ∃ H, H = ss.heap := ⟨_, rfl⟩
  obtain ⟨locs, eL⟩ : ∃ L : List Loc, L = [] := ⟨_, rfl⟩
  have hP : va_P D vwCl [(q 0, eCli (gb (J)) (q 1) (q 3) (q 5) (q 7) dc (q 8) (q 9) (nI M.length)), (q 1, eScr (q 2)), (q 2, eJ cy 12 fs), (q 3, eCch (q 4) (nI L.length)), (q 4, eJ cy 6 f), (q 8, eI cy 12 ft), (q 9, eJ cy 12 fm)] H := by rw [eH]; exact hP
  have hS : va_S AA ss.heap H locs := by rw [eH, eL]; exact hS
  have goal : ∀ X Y, X = H → Y = locs → W pp l ee ({ frames := 2, cells := 0, slots := 0, locals := 54 } : Room) ss mm ([.ref (q 0)] : List Value).toArray bw mt cd X Y 0 0 QQ (F0 mm 0 ls []) → W pp l ee ({ frames := 2, cells := 0, slots := 0, locals := 54 } : Room) ss mm ([.ref (q 0)] : List Value).toArray bw mt cd ss.heap [] 0 0 QQ (F0 mm 0 ls []) := fun X Y hX hY h => by rw [hX, hY, eH, eL] at h; exact h
  refine goal H locs rfl rfl ?_
  clear goal eH eL
  obtain ⟨hx, hb, hml, hown, hts, hlocks⟩ := hfx
  have hown : ss.vm.findClass RX1 = some mm.cls := hown
  have hl : lv_has ls 3 [(0, .ref (q 0))] := hl
  refine lv_aload_n hx hb dX1_takeMessage_0 rfl (lv_at hl 0 rfl) ?_
  refine va_get (D := D) (ci := 1) (v := .int (nI M.length)) (C := RX1) (T := TX1) (N := 9) hx hb hts iX1_takeMessage_X1 hown hG.1 hP 0 rfl rfl 8 (by decide) (hts (.fieldLink RX1 47 "DirtyTiles$Client" "messageCount" "I") (by decide +kernel)) (fun _ h9 => h9) rfl dX1_takeMessage_1 ?_
  refine lv_istore_n (lv' := [(1, .int (nI M.length)), (0, .ref (q 0))]) hx hb dX1_takeMessage_4 rfl hl (by decide) rfl (fun ls hl => ?_)
  refine lv_iconst (v := nI 0) hx hb dX1_takeMessage_5 (by decide) ?_
  refine lv_istore_n (lv' := [(2, .int (nI 0)), (1, .int (nI M.length)), (0, .ref (q 0))]) hx hb dX1_takeMessage_6 rfl hl (by decide) rfl (fun ls hl => ?_)
  have loop_7 : ∀ (n9 : Nat) (i : Nat) (g : Nat → Int64) (P : List Int64) (fp : Nat → Int64), M.length - i < n9 → (i ≤ M.length) → (g = scrF (M.take i) fs) → (P = cchF (M.take i) L) → (hC P fp) → (P.length ≤ 6) → ∀ (H : Heap) (locs : List Loc) (ls : Array Slot), va_P D vwCl [(q 0, eCli (gb (J)) (q 1) (q 3) (q 5) (q 7) dc (q 8) (q 9) (nI M.length)), (q 1, eScr (q 2)), (q 2, eJ cy 12 g), (q 3, eCch (q 4) (nI P.length)), (q 4, eJ cy 6 fp), (q 8, eI cy 12 ft), (q 9, eJ cy 12 fm)] H → va_D AA [(q 0, eCli (gb (J)) (q 1) (q 3) (q 5) (q 7) dc (q 8) (q 9) (nI M.length)), (q 1, eScr (q 2)), (q 2, eJ cy 12 g), (q 3, eCch (q 4) (nI P.length)), (q 4, eJ cy 6 fp), (q 8, eI cy 12 ft), (q 9, eJ cy 12 fm)] → va_S AA ss.heap H locs → lv_has ls 3 [(0, .ref (q 0)), (1, .int (nI M.length)), (2, .int (nI i))] → W pp l ee ({ frames := 2, cells := 0, slots := 0, locals := 54 } : Room) ss mm ([.ref (q 0)] : List Value).toArray bw mt cd H locs 0 0 QQ (F0 mm 7 ls []) := by
    intro n9
    induction n9 with
    | zero => intro i g P fp h9; exact absurd h9 (Nat.not_lt_zero _)
    | succ n9 ih_7 =>
      intro i g P fp hm_7 hi hg hp9 hfp hP6 H locs ls hP hD hS hl
      refine lv_iload_n hx hb dX1_takeMessage_7 rfl (lv_at hl 2 rfl) ?_
      refine lv_iload_n hx hb dX1_takeMessage_8 rfl (lv_at hl 1 rfl) ?_
      refine lv_icmp_ge (tgt := 50) hx hb dX1_takeMessage_9 (by decide) (fun c_9 => ?_) (fun c_9 => ?_)
      · skip
        have c_9 : M.length ≤ i := (nI_leI (a := M.length) (b := i) (by omega) (by omega)).mp c_9
        refine lv_aload_n hx hb dX1_takeMessage_50 rfl (lv_at hl 0 rfl) ?_
        refine lv_iconst (v := nI 0) hx hb dX1_takeMessage_51 (by decide) ?_
        refine va_put (D := D) (ci := 1) (v := .int (nI 0)) (ty := .int) (C := RX1) (T := TX1) (N := 9) hx hb hts iX1_takeMessage_X1 tyX1 tyX1_ok nmX1 hown hG.1 hP hD hS 0 rfl rfl 8 (by decide) (hts (.fieldLink RX1 47 "DirtyTiles$Client" "messageCount" "I") (by decide +kernel)) (fun _ h9 => h9) rfl (by decide +kernel) rfl rfl (Nat.le_of_ble_eq_true rfl) dX1_takeMessage_52 (fun H locs hP hD hS => ?_)
        have hP : va_P D vwCl [(q 0, eCli (gb (J)) (q 1) (q 3) (q 5) (q 7) dc (q 8) (q 9) (nI 0)), (q 1, eScr (q 2)), (q 2, eJ cy 12 g), (q 3, eCch (q 4) (nI P.length)), (q 4, eJ cy 6 fp), (q 8, eI cy 12 ft), (q 9, eJ cy 12 fm)] H := hP
        have hD : va_D AA [(q 0, eCli (gb (J)) (q 1) (q 3) (q 5) (q 7) dc (q 8) (q 9) (nI 0)), (q 1, eScr (q 2)), (q 2, eJ cy 12 g), (q 3, eCch (q 4) (nI P.length)), (q 4, eJ cy 6 fp), (q 8, eI cy 12 ft), (q 9, eJ cy 12 fm)] := hD
        refine lv_iload_n hx hb dX1_takeMessage_55 rfl (lv_at hl 1 rfl) ?_
        have e9 : i = M.length := by omega
        rw [e9, List.take_length] at hg hp9
        exact hret _ _ _ _ _ ⟨g, P, fp⟩ dX1_takeMessage_56 (⟨rfl, hg, hp9, hfp, hP6⟩) (hP.sub [0, 1, 2, 3, 4, 5, 6] rfl) (hD.sub [0, 1, 2, 3, 4, 5, 6] (by decide) rfl) hS
      · skip
        have c_9 : ¬ M.length ≤ i := fun z => c_9 ((nI_leI (a := M.length) (b := i) (by omega) (by omega)).mpr z)
        refine lv_aload_n hx hb dX1_takeMessage_12 rfl (lv_at hl 0 rfl) ?_
        refine va_get (D := D) (ci := 1) (v := .ref (q 1)) (C := RX1) (T := TX1) (N := 9) hx hb hts iX1_takeMessage_X1 hown hG.1 hP 0 rfl rfl 1 (by decide) (hts (.fieldLink RX1 18 "DirtyTiles$Client" "ownScreen" "LDirtyTiles$Screen;") (by decide +kernel)) (fun _ h9 => h9) rfl dX1_takeMessage_13 ?_
        refine lv_aload_n hx hb dX1_takeMessage_16 rfl (lv_at hl 0 rfl) ?_
        refine va_get (D := D) (ci := 1) (v := .ref (q 8)) (C := RX1) (T := TX1) (N := 9) hx hb hts iX1_takeMessage_X1 hown hG.1 hP 0 rfl rfl 6 (by decide) (hts (.fieldLink RX1 40 "DirtyTiles$Client" "messageTiles" "[I") (by decide +kernel)) (fun _ h9 => h9) rfl dX1_takeMessage_17 ?_
        refine lv_iload_n hx hb dX1_takeMessage_20 rfl (lv_at hl 2 rfl) ?_
        refine g_iald hx hb hG hP 5 0 rfl rfl (k := i) (by omega) (by decide) dX1_takeMessage_21 ?_
        refine g_ti (y := nI (mT M i)) ((hm9 i (by omega)).1) ?_
        refine lv_aload_n hx hb dX1_takeMessage_22 rfl (lv_at hl 0 rfl) ?_
        refine va_get (D := D) (ci := 1) (v := .ref (q 9)) (C := RX1) (T := TX1) (N := 9) hx hb hts iX1_takeMessage_X1 hown hG.1 hP 0 rfl rfl 7 (by decide) (hts (.fieldLink RX1 43 "DirtyTiles$Client" "messageCells" "[J") (by decide +kernel)) (fun _ h9 => h9) rfl dX1_takeMessage_23 ?_
        refine lv_iload_n hx hb dX1_takeMessage_26 rfl (lv_at hl 2 rfl) ?_
        refine g_lald hx hb hG hP 6 1 rfl rfl (k := i) (by omega) (by decide) dX1_takeMessage_27 ?_
        refine g_tl (y := mX M i) ((hm9 i (by omega)).2) ?_
        refine gc_Wv (wn := fun u => [(q 0, eCli (gb (J)) (q 1) (q 3) (q 5) (q 7) dc (q 8) (q 9) (nI M.length)), (q 1, eScr (q 2)), (q 2, eJ cy 12 u), (q 3, eCch (q 4) (nI P.length)), (q 4, eJ cy 6 fp), (q 8, eI cy 12 ft), (q 9, eJ cy 12 fm)]) (wr := [(q 0, eCli (gb (J)) (q 1) (q 3) (q 5) (q 7) dc (q 8) (q 9) (nI M.length)), (q 3, eCch (q 4) (nI P.length)), (q 4, eJ cy 6 fp), (q 8, eI cy 12 ft), (q 9, eJ cy 12 fm)]) (va_runV (As := [.int (nI (mT M i)), .long (mX M i)]) (rest := []) ⟨hx, hb, hml, hown, hts⟩ (c_X2_replaceTile l D cy H.size (q 1) (q 2) g (mT M i) (mX M i) (ho i (by omega))) (cwV 2 hts gX1_takeMessage_X2_replaceTile rfl rfl rfl (by decide +kernel) ⟨Nat.le_of_ble_eq_true rfl, Nat.le_of_ble_eq_true rfl⟩) (gpVI (ci := 2) (q0 := 0) hG (hP.sub [1, 2] rfl) (hD.sub [1, 2] (by decide) rfl) rfl rfl) rfl rfl hl.1 rfl (lv_room (Nat.le_of_ble_eq_true rfl)) dX1_takeMessage_28 ⟨Nat.zero_le _, Nat.zero_le _⟩) hP hD hS hA [1, 2] [0, 3, 4, 5, 6] [0, 5, 6, 1, 2, 3, 4] rfl rfl (by decide) (by decide) (fun _ => rfl) (by decide) (fun g2 H locs hw_28 hP hD hS => ?_)
        have hP : va_P D vwCl [(q 0, eCli (gb (J)) (q 1) (q 3) (q 5) (q 7) dc (q 8) (q 9) (nI M.length)), (q 1, eScr (q 2)), (q 2, eJ cy 12 g2), (q 3, eCch (q 4) (nI P.length)), (q 4, eJ cy 6 fp), (q 8, eI cy 12 ft), (q 9, eJ cy 12 fm)] H := hP
        have hD : va_D AA [(q 0, eCli (gb (J)) (q 1) (q 3) (q 5) (q 7) dc (q 8) (q 9) (nI M.length)), (q 1, eScr (q 2)), (q 2, eJ cy 12 g2), (q 3, eCch (q 4) (nI P.length)), (q 4, eJ cy 6 fp), (q 8, eI cy 12 ft), (q 9, eJ cy 12 fm)] := hD
        have hw_28 : g2 = vp_updL g (mT M i) (mX M i) := hw_28
        refine lv_aload_n hx hb dX1_takeMessage_31 rfl (lv_at hl 0 rfl) ?_
        refine va_get (D := D) (ci := 1) (v := .ref (q 3)) (C := RX1) (T := TX1) (N := 9) hx hb hts iX1_takeMessage_X1 hown hG.1 hP 0 rfl rfl 2 (by decide) (hts (.fieldLink RX1 25 "DirtyTiles$Client" "ownCache" "LDirtyTiles$Cache;") (by decide +kernel)) (fun _ h9 => h9) rfl dX1_takeMessage_32 ?_
        refine lv_aload_n hx hb dX1_takeMessage_35 rfl (lv_at hl 0 rfl) ?_
        refine va_get (D := D) (ci := 1) (v := .ref (q 9)) (C := RX1) (T := TX1) (N := 9) hx hb hts iX1_takeMessage_X1 hown hG.1 hP 0 rfl rfl 7 (by decide) (hts (.fieldLink RX1 43 "DirtyTiles$Client" "messageCells" "[J") (by decide +kernel)) (fun _ h9 => h9) rfl dX1_takeMessage_36 ?_
        refine lv_iload_n hx hb dX1_takeMessage_39 rfl (lv_at hl 2 rfl) ?_
        refine g_lald hx hb hG hP 6 1 rfl rfl (k := i) (by omega) (by decide) dX1_takeMessage_40 ?_
        refine g_tl (y := mX M i) ((hm9 i (by omega)).2) ?_
        refine gc_Wv (wn := fun u => [(q 0, eCli (gb (J)) (q 1) (q 3) (q 5) (q 7) dc (q 8) (q 9) (nI M.length)), (q 1, eScr (q 2)), (q 2, eJ cy 12 g2), (q 3, eCch (q 4) (nI (brg P (mX M i)).length)), (q 4, eJ cy 6 u), (q 8, eI cy 12 ft), (q 9, eJ cy 12 fm)]) (wr := [(q 0, eCli (gb (J)) (q 1) (q 3) (q 5) (q 7) dc (q 8) (q 9) (nI M.length)), (q 1, eScr (q 2)), (q 2, eJ cy 12 g2), (q 8, eI cy 12 ft), (q 9, eJ cy 12 fm)]) (va_runV (As := [.long (mX M i)]) (rest := []) ⟨hx, hb, hml, hown, hts⟩ (c_X0_bringToFront l D cy H.size (q 3) (q 4) P fp (mX M i) hfp hP6) (cwV 1 hts gX1_takeMessage_X0_bringToFront rfl rfl rfl (by decide +kernel) ⟨Nat.le_of_ble_eq_true rfl, Nat.le_of_ble_eq_true rfl⟩) (gpVI (ci := 0) (q0 := 0) hG (hP.sub [3, 4] rfl) (hD.sub [3, 4] (by decide) rfl) rfl rfl) rfl rfl hl.1 rfl (lv_room (Nat.le_of_ble_eq_true rfl)) dX1_takeMessage_41 ⟨Nat.zero_le _, Nat.zero_le _⟩) hP hD hS hA [3, 4] [0, 1, 2, 5, 6] [0, 1, 2, 5, 6, 3, 4] rfl rfl (by decide) (by decide) (fun _ => rfl) (by decide) (fun fp2 H locs hw_41 hP hD hS => ?_)
        have hP : va_P D vwCl [(q 0, eCli (gb (J)) (q 1) (q 3) (q 5) (q 7) dc (q 8) (q 9) (nI M.length)), (q 1, eScr (q 2)), (q 2, eJ cy 12 g2), (q 3, eCch (q 4) (nI (brg P (mX M i)).length)), (q 4, eJ cy 6 fp2), (q 8, eI cy 12 ft), (q 9, eJ cy 12 fm)] H := hP
        have hD : va_D AA [(q 0, eCli (gb (J)) (q 1) (q 3) (q 5) (q 7) dc (q 8) (q 9) (nI M.length)), (q 1, eScr (q 2)), (q 2, eJ cy 12 g2), (q 3, eCch (q 4) (nI (brg P (mX M i)).length)), (q 4, eJ cy 6 fp2), (q 8, eI cy 12 ft), (q 9, eJ cy 12 fm)] := hD
        have hw_41 : hC (brg P (mX M i)) fp2 := hw_41
        refine lv_iinc (v := nI (i + 1)) (lv' := [(2, .int (nI (i + 1))), (0, .ref (q 0)), (1, .int (nI M.length))]) hx hb dX1_takeMessage_44 hl (k := 2) rfl (nI_1 _) (by decide) rfl (fun ls hl => ?_)
        refine lv_goto (tgt := 7) hx hb dX1_takeMessage_47 (by decide) ?_
        exact ih_7 (i + 1) g2 (brg P (mX M i)) fp2 (by omega) (by omega) (by rw [hw_28]; exact scrF_step (by omega) hg) (cchF_step (by omega) hp9) hw_41 (brg_le _ _) _ _ _ (hP.sub [0, 1, 2, 3, 4, 5, 6] rfl) (hD.sub [0, 1, 2, 3, 4, 5, 6] (by decide) rfl) hS (lv_sub hl [1, 2, 0] rfl)
  exact loop_7 ((M.length - 0) + 1) 0 fs L f (Nat.lt_succ_self _) (by omega) rfl rfl hf hL _ _ _ (hP.sub [0, 1, 2, 3, 4, 5, 6] rfl) (hD.sub [0, 1, 2, 3, 4, 5, 6] (by decide) rfl) hS (lv_sub hl [2, 1, 0] rfl)
theorem iX1_beginAnew_X1 : ∀ w ∈ wsX10, w ∈ wsX1_beginAnew := by decide +kernel
set_option maxHeartbeats 4000000 in
set_option maxRecDepth 100000 in
theorem c_X1_beginAnew (l : Launch) (D : va_G) (cy : Nat → ClassId) (sz : Nat) (q : Nat → Nat) (J : Prop) (dc k no nc : Int32) (fs fo fc : Nat → Int64) (fd : Nat → Int32)  : Met l yX1_beginAnew wsX1_beginAnew ({ frames := 1, cells := 0, slots := 0, locals := 21 } : Room) (va_Pc [.ref (q 0)] (gI D (gT cy) [(q 0, eCli (gb (J)) (q 1) (q 3) (q 5) (q 7) dc (q 8) (q 9) k), (q 1, eScr (q 2)), (q 2, eJ cy 12 fs), (q 3, eCch (q 4) no), (q 4, eJ cy 6 fo), (q 5, eCch (q 6) nc), (q 6, eJ cy 6 fc), (q 7, eI cy 12 fd)] sz)) (va_Qv (fun u : (Nat → Int64) × (Nat → Int32) => ((∀ k, k < 12 → u.1 k = 0) ∧ (∀ k, k < 12 → u.2 k = nI k))) (gO D (fun u : (Nat → Int64) × (Nat → Int32) => [(q 0, eCli (gb (True)) (q 1) (q 3) (q 5) (q 7) (nI 12) (q 8) (q 9) (nI 0)), (q 1, eScr (q 2)), (q 2, eJ cy 12 u.1), (q 3, eCch (q 4) (nI 0)), (q 4, eJ cy 6 fo), (q 5, eCch (q 6) (nI 0)), (q 6, eJ cy 6 fc), (q 7, eI cy 12 u.2)]) (va_A [(q 0, eCli (gb (J)) (q 1) (q 3) (q 5) (q 7) dc (q 8) (q 9) k), (q 1, eScr (q 2)), (q 2, eJ cy 12 fs), (q 3, eCch (q 4) no), (q 4, eJ cy 6 fo), (q 5, eCch (q 6) nc), (q 6, eJ cy 6 fc), (q 7, eI cy 12 fd)] sz)) (va_A [(q 0, eCli (gb (J)) (q 1) (q 3) (q 5) (q 7) dc (q 8) (q 9) k), (q 1, eScr (q 2)), (q 2, eJ cy 12 fs), (q 3, eCch (q 4) no), (q 4, eJ cy 6 fo), (q 5, eCch (q 6) nc), (q 6, eJ cy 6 fc), (q 7, eI cy 12 fd)] sz)) 0 0 (va_A [(q 0, eCli (gb (J)) (q 1) (q 3) (q 5) (q 7) dc (q 8) (q 9) k), (q 1, eScr (q 2)), (q 2, eJ cy 12 fs), (q 3, eCch (q 4) no), (q 4, eJ cy 6 fo), (q 5, eCch (q 6) nc), (q 6, eJ cy 6 fc), (q 7, eI cy 12 fd)] sz) := by
  refine gW_v (cc := cX1_beginAnew) (maxL := 2) (by decide) rfl (Nat.le_of_ble_eq_true rfl) ?_
  intro pp ee ss mm bw mt cd QQ AA ls hfx hP hG hD hA hret hl
  have hS : va_S AA ss.heap ss.heap [] := va_S.rf
  obtain ⟨H, eH⟩ : ∃ H, H = ss.heap := ⟨_, rfl⟩
  obtain ⟨locs, eL⟩ : ∃ L : List Loc, L = [] := ⟨_, rfl⟩
  have hP : va_P D vwCl [(q 0, eCli (gb (J)) (q 1) (q 3) (q 5) (q 7) dc (q 8) (q 9) k), (q 1, eScr (q 2)), (q 2, eJ cy 12 fs), (q 3, eCch (q 4) no), (q 4, eJ cy 6 fo), (q 5, eCch (q 6) nc), (q 6, eJ cy 6 fc), (q 7, eI cy 12 fd)] H := by rw [eH]; exact hP
  have hS : va_S AA ss.heap H locs := by rw [eH, eL]; exact hS
  have goal : ∀ X Y, X = H → Y = locs → W pp l ee ({ frames := 1, cells := 0, slots := 0, locals := 21 } : Room) ss mm ([.ref (q 0)] : List Value).toArray bw mt cd X Y 0 0 QQ (F0 mm 0 ls []) → W pp l ee ({ frames := 1, cells := 0, slots := 0, locals := 21 } : Room) ss mm ([.ref (q 0)] : List Value).toArray bw mt cd ss.heap [] 0 0 QQ (F0 mm 0 ls []) := fun X Y hX hY h => by rw [hX, hY, eH, eL] at h; exact h
  refine goal H locs rfl rfl ?_
  clear goal eH eL
  obtain ⟨hx, hb, hml, hown, hts, hlocks⟩ := hfx
  have hown : ss.vm.findClass RX1 = some mm.cls := hown
  have hl : lv_has ls 2 [(0, .ref (q 0))] := hl
  refine lv_aload_n hx hb dX1_beginAnew_0 rfl (lv_at hl 0 rfl) ?_
  refine lv_iconst (v := nI 1) hx hb dX1_beginAnew_1 (by decide) ?_
  refine g_ti (y := gb (True)) ((gb_t trivial).symm) ?_
  refine va_put (D := D) (ci := 1) (v := .int (gb (True))) (ty := .boolean) (C := RX1) (T := TX1) (N := 9) hx hb hts iX1_beginAnew_X1 tyX1 tyX1_ok nmX1 hown hG.1 hP hD hS 0 rfl rfl 0 (by decide) (hts (.fieldLink RX1 9 "DirtyTiles$Client" "joined" "Z") (by decide +kernel)) (fun _ h9 => h9) rfl (by decide +kernel) (gb_nar _) (gb_fit _) (Nat.le_of_ble_eq_true rfl) dX1_beginAnew_2 (fun H locs hP hD hS => ?_)
  have hP : va_P D vwCl [(q 0, eCli (gb (True)) (q 1) (q 3) (q 5) (q 7) dc (q 8) (q 9) k), (q 1, eScr (q 2)), (q 2, eJ cy 12 fs), (q 3, eCch (q 4) no), (q 4, eJ cy 6 fo), (q 5, eCch (q 6) nc), (q 6, eJ cy 6 fc), (q 7, eI cy 12 fd)] H := hP
  have hD : va_D AA [(q 0, eCli (gb (True)) (q 1) (q 3) (q 5) (q 7) dc (q 8) (q 9) k), (q 1, eScr (q 2)), (q 2, eJ cy 12 fs), (q 3, eCch (q 4) no), (q 4, eJ cy 6 fo), (q 5, eCch (q 6) nc), (q 6, eJ cy 6 fc), (q 7, eI cy 12 fd)] := hD
  refine lv_aload_n hx hb dX1_beginAnew_5 rfl (lv_at hl 0 rfl) ?_
  refine va_get (D := D) (ci := 1) (v := .ref (q 1)) (C := RX1) (T := TX1) (N := 9) hx hb hts iX1_beginAnew_X1 hown hG.1 hP 0 rfl rfl 1 (by decide) (hts (.fieldLink RX1 18 "DirtyTiles$Client" "ownScreen" "LDirtyTiles$Screen;") (by decide +kernel)) (fun _ h9 => h9) rfl dX1_beginAnew_6 ?_
  refine gc_Wv (wn := fun u => [(q 0, eCli (gb (True)) (q 1) (q 3) (q 5) (q 7) dc (q 8) (q 9) k), (q 1, eScr (q 2)), (q 2, eJ cy 12 u), (q 3, eCch (q 4) no), (q 4, eJ cy 6 fo), (q 5, eCch (q 6) nc), (q 6, eJ cy 6 fc), (q 7, eI cy 12 fd)]) (wr := [(q 0, eCli (gb (True)) (q 1) (q 3) (q 5) (q 7) dc (q 8) (q 9) k), (q 3, eCch (q 4) no), (q 4, eJ cy 6 fo), (q 5, eCch (q 6) nc), (q 6, eJ cy 6 fc), (q 7, eI cy 12 fd)]) (va_runV (As := []) (rest := []) ⟨hx, hb, hml, hown, hts⟩ (c_X2_clear l D cy H.size (q 1) (q 2) fs) (cwV 0 hts gX1_beginAnew_X2_clear rfl rfl rfl (by decide +kernel) ⟨Nat.le_of_ble_eq_true rfl, Nat.le_of_ble_eq_true rfl⟩) (gpVI (ci := 2) (q0 := 0) hG (hP.sub [1, 2] rfl) (hD.sub [1, 2] (by decide) rfl) rfl rfl) rfl rfl hl.1 rfl (lv_room (Nat.le_of_ble_eq_true rfl)) dX1_beginAnew_9 ⟨Nat.zero_le _, Nat.zero_le _⟩) hP hD hS hA [1, 2] [0, 3, 4, 5, 6, 7] [0, 6, 7, 1, 2, 3, 4, 5] rfl rfl (by decide) (by decide) (fun _ => rfl) (by decide) (fun gs H locs hw_9 hP hD hS => ?_)
  have hP : va_P D vwCl [(q 0, eCli (gb (True)) (q 1) (q 3) (q 5) (q 7) dc (q 8) (q 9) k), (q 1, eScr (q 2)), (q 2, eJ cy 12 gs), (q 3, eCch (q 4) no), (q 4, eJ cy 6 fo), (q 5, eCch (q 6) nc), (q 6, eJ cy 6 fc), (q 7, eI cy 12 fd)] H := hP
  have hD : va_D AA [(q 0, eCli (gb (True)) (q 1) (q 3) (q 5) (q 7) dc (q 8) (q 9) k), (q 1, eScr (q 2)), (q 2, eJ cy 12 gs), (q 3, eCch (q 4) no), (q 4, eJ cy 6 fo), (q 5, eCch (q 6) nc), (q 6, eJ cy 6 fc), (q 7, eI cy 12 fd)] := hD
  have hw_9 : ∀ k, k < 12 → gs k = 0 := hw_9
  refine lv_aload_n hx hb dX1_beginAnew_12 rfl (lv_at hl 0 rfl) ?_
  refine va_get (D := D) (ci := 1) (v := .ref (q 3)) (C := RX1) (T := TX1) (N := 9) hx hb hts iX1_beginAnew_X1 hown hG.1 hP 0 rfl rfl 2 (by decide) (hts (.fieldLink RX1 25 "DirtyTiles$Client" "ownCache" "LDirtyTiles$Cache;") (by decide +kernel)) (fun _ h9 => h9) rfl dX1_beginAnew_13 ?_
  refine gc_Wv (wn := fun u => [(q 0, eCli (gb (True)) (q 1) (q 3) (q 5) (q 7) dc (q 8) (q 9) k), (q 1, eScr (q 2)), (q 2, eJ cy 12 gs), (q 3, eCch (q 4) (nI 0)), (q 4, eJ cy 6 fo), (q 5, eCch (q 6) nc), (q 6, eJ cy 6 fc), (q 7, eI cy 12 fd)]) (wr := [(q 0, eCli (gb (True)) (q 1) (q 3) (q 5) (q 7) dc (q 8) (q 9) k), (q 1, eScr (q 2)), (q 2, eJ cy 12 gs), (q 5, eCch (q 6) nc), (q 6, eJ cy 6 fc), (q 7, eI cy 12 fd)]) (va_runV (As := []) (rest := []) ⟨hx, hb, hml, hown, hts⟩ (c_X0_clear l D cy H.size (q 3) (q 4) no fo) (cwV 0 hts gX1_beginAnew_X0_clear rfl rfl rfl (by decide +kernel) ⟨Nat.le_of_ble_eq_true rfl, Nat.le_of_ble_eq_true rfl⟩) (gpVI (ci := 0) (q0 := 0) hG (hP.sub [3, 4] rfl) (hD.sub [3, 4] (by decide) rfl) rfl rfl) rfl rfl hl.1 rfl (lv_room (Nat.le_of_ble_eq_true rfl)) dX1_beginAnew_16 ⟨Nat.zero_le _, Nat.zero_le _⟩) hP hD hS hA [3, 4] [0, 1, 2, 5, 6, 7] [0, 1, 2, 6, 7, 3, 4, 5] rfl rfl (by decide) (by decide) (fun _ => rfl) (by decide) (fun _u H locs hw_16 hP hD hS => ?_)
  have hP : va_P D vwCl [(q 0, eCli (gb (True)) (q 1) (q 3) (q 5) (q 7) dc (q 8) (q 9) k), (q 1, eScr (q 2)), (q 2, eJ cy 12 gs), (q 3, eCch (q 4) (nI 0)), (q 4, eJ cy 6 fo), (q 5, eCch (q 6) nc), (q 6, eJ cy 6 fc), (q 7, eI cy 12 fd)] H := hP
  have hD : va_D AA [(q 0, eCli (gb (True)) (q 1) (q 3) (q 5) (q 7) dc (q 8) (q 9) k), (q 1, eScr (q 2)), (q 2, eJ cy 12 gs), (q 3, eCch (q 4) (nI 0)), (q 4, eJ cy 6 fo), (q 5, eCch (q 6) nc), (q 6, eJ cy 6 fc), (q 7, eI cy 12 fd)] := hD
  have hw_16 : True := hw_16
  refine lv_aload_n hx hb dX1_beginAnew_19 rfl (lv_at hl 0 rfl) ?_
  refine va_get (D := D) (ci := 1) (v := .ref (q 5)) (C := RX1) (T := TX1) (N := 9) hx hb hts iX1_beginAnew_X1 hown hG.1 hP 0 rfl rfl 3 (by decide) (hts (.fieldLink RX1 29 "DirtyTiles$Client" "serverCache" "LDirtyTiles$Cache;") (by decide +kernel)) (fun _ h9 => h9) rfl dX1_beginAnew_20 ?_
  refine gc_Wv (wn := fun u => [(q 0, eCli (gb (True)) (q 1) (q 3) (q 5) (q 7) dc (q 8) (q 9) k), (q 1, eScr (q 2)), (q 2, eJ cy 12 gs), (q 3, eCch (q 4) (nI 0)), (q 4, eJ cy 6 fo), (q 5, eCch (q 6) (nI 0)), (q 6, eJ cy 6 fc), (q 7, eI cy 12 fd)]) (wr := [(q 0, eCli (gb (True)) (q 1) (q 3) (q 5) (q 7) dc (q 8) (q 9) k), (q 1, eScr (q 2)), (q 2, eJ cy 12 gs), (q 3, eCch (q 4) (nI 0)), (q 4, eJ cy 6 fo), (q 7, eI cy 12 fd)]) (va_runV (As := []) (rest := []) ⟨hx, hb, hml, hown, hts⟩ (c_X0_clear l D cy H.size (q 5) (q 6) nc fc) (cwV 0 hts gX1_beginAnew_X0_clear rfl rfl rfl (by decide +kernel) ⟨Nat.le_of_ble_eq_true rfl, Nat.le_of_ble_eq_true rfl⟩) (gpVI (ci := 0) (q0 := 0) hG (hP.sub [5, 6] rfl) (hD.sub [5, 6] (by decide) rfl) rfl rfl) rfl rfl hl.1 rfl (lv_room (Nat.le_of_ble_eq_true rfl)) dX1_beginAnew_23 ⟨Nat.zero_le _, Nat.zero_le _⟩) hP hD hS hA [5, 6] [0, 1, 2, 3, 4, 7] [0, 1, 2, 3, 4, 6, 7, 5] rfl rfl (by decide) (by decide) (fun _ => rfl) (by decide) (fun _u H locs hw_23 hP hD hS => ?_)
  have hP : va_P D vwCl [(q 0, eCli (gb (True)) (q 1) (q 3) (q 5) (q 7) dc (q 8) (q 9) k), (q 1, eScr (q 2)), (q 2, eJ cy 12 gs), (q 3, eCch (q 4) (nI 0)), (q 4, eJ cy 6 fo), (q 5, eCch (q 6) (nI 0)), (q 6, eJ cy 6 fc), (q 7, eI cy 12 fd)] H := hP
  have hD : va_D AA [(q 0, eCli (gb (True)) (q 1) (q 3) (q 5) (q 7) dc (q 8) (q 9) k), (q 1, eScr (q 2)), (q 2, eJ cy 12 gs), (q 3, eCch (q 4) (nI 0)), (q 4, eJ cy 6 fo), (q 5, eCch (q 6) (nI 0)), (q 6, eJ cy 6 fc), (q 7, eI cy 12 fd)] := hD
  have hw_23 : True := hw_23
  refine lv_aload_n hx hb dX1_beginAnew_26 rfl (lv_at hl 0 rfl) ?_
  refine lv_iconst (v := nI 0) hx hb dX1_beginAnew_27 (by decide) ?_
  refine va_put (D := D) (ci := 1) (v := .int (nI 0)) (ty := .int) (C := RX1) (T := TX1) (N := 9) hx hb hts iX1_beginAnew_X1 tyX1 tyX1_ok nmX1 hown hG.1 hP hD hS 0 rfl rfl 8 (by decide) (hts (.fieldLink RX1 47 "DirtyTiles$Client" "messageCount" "I") (by decide +kernel)) (fun _ h9 => h9) rfl (by decide +kernel) rfl rfl (Nat.le_of_ble_eq_true rfl) dX1_beginAnew_28 (fun H locs hP hD hS => ?_)
  have hP : va_P D vwCl [(q 0, eCli (gb (True)) (q 1) (q 3) (q 5) (q 7) dc (q 8) (q 9) (nI 0)), (q 1, eScr (q 2)), (q 2, eJ cy 12 gs), (q 3, eCch (q 4) (nI 0)), (q 4, eJ cy 6 fo), (q 5, eCch (q 6) (nI 0)), (q 6, eJ cy 6 fc), (q 7, eI cy 12 fd)] H := hP
  have hD : va_D AA [(q 0, eCli (gb (True)) (q 1) (q 3) (q 5) (q 7) dc (q 8) (q 9) (nI 0)), (q 1, eScr (q 2)), (q 2, eJ cy 12 gs), (q 3, eCch (q 4) (nI 0)), (q 4, eJ cy 6 fo), (q 5, eCch (q 6) (nI 0)), (q 6, eJ cy 6 fc), (q 7, eI cy 12 fd)] := hD
  refine lv_iconst (v := nI 0) hx hb dX1_beginAnew_31 (by decide) ?_
  refine lv_istore_n (lv' := [(1, .int (nI 0)), (0, .ref (q 0))]) hx hb dX1_beginAnew_32 rfl hl (by decide) rfl (fun ls hl => ?_)
  have loop_33 : ∀ (n9 : Nat) (i : Nat) (g : Nat → Int32), 12 - i < n9 → (i ≤ 12) → (∀ k, k < i → g k = nI k) → ∀ (H : Heap) (locs : List Loc) (ls : Array Slot), va_P D vwCl [(q 0, eCli (gb (True)) (q 1) (q 3) (q 5) (q 7) dc (q 8) (q 9) (nI 0)), (q 1, eScr (q 2)), (q 2, eJ cy 12 gs), (q 3, eCch (q 4) (nI 0)), (q 4, eJ cy 6 fo), (q 5, eCch (q 6) (nI 0)), (q 6, eJ cy 6 fc), (q 7, eI cy 12 g)] H → va_D AA [(q 0, eCli (gb (True)) (q 1) (q 3) (q 5) (q 7) dc (q 8) (q 9) (nI 0)), (q 1, eScr (q 2)), (q 2, eJ cy 12 gs), (q 3, eCch (q 4) (nI 0)), (q 4, eJ cy 6 fo), (q 5, eCch (q 6) (nI 0)), (q 6, eJ cy 6 fc), (q 7, eI cy 12 g)] → va_S AA ss.heap H locs → lv_has ls 2 [(0, .ref (q 0)), (1, .int (nI i))] → W pp l ee ({ frames := 1, cells := 0, slots := 0, locals := 21 } : Room) ss mm ([.ref (q 0)] : List Value).toArray bw mt cd H locs 0 0 QQ (F0 mm 33 ls []) := by
    intro n9
    induction n9 with
    | zero => intro i g h9; exact absurd h9 (Nat.not_lt_zero _)
    | succ n9 ih_33 =>
      intro i g hm_33 hi hg H locs ls hP hD hS hl
      refine lv_iload_n hx hb dX1_beginAnew_33 rfl (lv_at hl 1 rfl) ?_
      refine lv_bipush (v := nI 12) hx hb dX1_beginAnew_34 (by decide) ?_
      refine lv_icmp_ge (tgt := 52) hx hb dX1_beginAnew_36 (by decide) (fun c_36 => ?_) (fun c_36 => ?_)
      · skip
        have c_36 : 12 ≤ i := (nI_leI (a := 12) (b := i) (by omega) (by omega)).mp c_36
        refine lv_aload_n hx hb dX1_beginAnew_52 rfl (lv_at hl 0 rfl) ?_
        refine lv_bipush (v := nI 12) hx hb dX1_beginAnew_53 (by decide) ?_
        refine va_put (D := D) (ci := 1) (v := .int (nI 12)) (ty := .int) (C := RX1) (T := TX1) (N := 9) hx hb hts iX1_beginAnew_X1 tyX1 tyX1_ok nmX1 hown hG.1 hP hD hS 0 rfl rfl 5 (by decide) (hts (.fieldLink RX1 36 "DirtyTiles$Client" "dirtyCount" "I") (by decide +kernel)) (fun _ h9 => h9) rfl (by decide +kernel) rfl rfl (Nat.le_of_ble_eq_true rfl) dX1_beginAnew_55 (fun H locs hP hD hS => ?_)
        have hP : va_P D vwCl [(q 0, eCli (gb (True)) (q 1) (q 3) (q 5) (q 7) (nI 12) (q 8) (q 9) (nI 0)), (q 1, eScr (q 2)), (q 2, eJ cy 12 gs), (q 3, eCch (q 4) (nI 0)), (q 4, eJ cy 6 fo), (q 5, eCch (q 6) (nI 0)), (q 6, eJ cy 6 fc), (q 7, eI cy 12 g)] H := hP
        have hD : va_D AA [(q 0, eCli (gb (True)) (q 1) (q 3) (q 5) (q 7) (nI 12) (q 8) (q 9) (nI 0)), (q 1, eScr (q 2)), (q 2, eJ cy 12 gs), (q 3, eCch (q 4) (nI 0)), (q 4, eJ cy 6 fo), (q 5, eCch (q 6) (nI 0)), (q 6, eJ cy 6 fc), (q 7, eI cy 12 g)] := hD
        exact hret _ _ _ _ ⟨gs, g⟩ dX1_beginAnew_58 (⟨hw_9, fun k hk => hg k (by omega)⟩) (hP.sub [0, 1, 2, 3, 4, 5, 6, 7] rfl) (hD.sub [0, 1, 2, 3, 4, 5, 6, 7] (by decide) rfl) hS
      · skip
        have c_36 : ¬ 12 ≤ i := fun z => c_36 ((nI_leI (a := 12) (b := i) (by omega) (by omega)).mpr z)
        refine lv_aload_n hx hb dX1_beginAnew_39 rfl (lv_at hl 0 rfl) ?_
        refine va_get (D := D) (ci := 1) (v := .ref (q 7)) (C := RX1) (T := TX1) (N := 9) hx hb hts iX1_beginAnew_X1 hown hG.1 hP 0 rfl rfl 4 (by decide) (hts (.fieldLink RX1 32 "DirtyTiles$Client" "dirtyTiles" "[I") (by decide +kernel)) (fun _ h9 => h9) rfl dX1_beginAnew_40 ?_
        refine lv_iload_n hx hb dX1_beginAnew_43 rfl (lv_at hl 1 rfl) ?_
        refine lv_iload_n hx hb dX1_beginAnew_44 rfl (lv_at hl 1 rfl) ?_
        refine g_iast hx hb hG hP hD hS 7 0 rfl rfl (k := i) (by omega) (by decide) dX1_beginAnew_45 (fun H locs hP hD hS => ?_)
        have hP : va_P D vwCl [(q 0, eCli (gb (True)) (q 1) (q 3) (q 5) (q 7) dc (q 8) (q 9) (nI 0)), (q 1, eScr (q 2)), (q 2, eJ cy 12 gs), (q 3, eCch (q 4) (nI 0)), (q 4, eJ cy 6 fo), (q 5, eCch (q 6) (nI 0)), (q 6, eJ cy 6 fc), (q 7, eI cy 12 (upd g i (nI i)))] H := hP
        have hD : va_D AA [(q 0, eCli (gb (True)) (q 1) (q 3) (q 5) (q 7) dc (q 8) (q 9) (nI 0)), (q 1, eScr (q 2)), (q 2, eJ cy 12 gs), (q 3, eCch (q 4) (nI 0)), (q 4, eJ cy 6 fo), (q 5, eCch (q 6) (nI 0)), (q 6, eJ cy 6 fc), (q 7, eI cy 12 (upd g i (nI i)))] := hD
        refine lv_iinc (v := nI (i + 1)) (lv' := [(1, .int (nI (i + 1))), (0, .ref (q 0))]) hx hb dX1_beginAnew_46 hl (k := 1) rfl (nI_1 _) (by decide) rfl (fun ls hl => ?_)
        refine lv_goto (tgt := 33) hx hb dX1_beginAnew_49 (by decide) ?_
        exact ih_33 (i + 1) (upd g i (nI i)) (by omega) (by omega) (g_covI hg rfl) _ _ _ (hP.sub [0, 1, 2, 3, 4, 5, 6, 7] rfl) (hD.sub [0, 1, 2, 3, 4, 5, 6, 7] (by decide) rfl) hS (lv_sub hl [1, 0] rfl)
  exact loop_33 ((12 - 0) + 1) 0 fd (Nat.lt_succ_self _) (by omega) (fun k hk => absurd hk (Nat.not_lt_zero k)) _ _ _ (hP.sub [0, 1, 2, 3, 4, 5, 6, 7] rfl) (hD.sub [0, 1, 2, 3, 4, 5, 6, 7] (by decide) rfl) hS (lv_sub hl [1, 0] rfl)
end
section
/-! the class: what a drawing makes dirty -/
/-! what a drawing makes dirty -/
noncomputable def soilJ (J : Prop) (L : List Nat) (t : Nat) : List Nat := @ite _ J (Classical.propDecidable J) (soil L t) L
theorem soilJ_t {J : Prop} {L : List Nat} {t : Nat} (h : J) : soil L t = soilJ J L t := by unfold soilJ; rw [if_pos h]
theorem soilJ_f {J : Prop} {L : List Nat} {t : Nat} (h : ¬ J) : L = soilJ J L t := by unfold soilJ; rw [if_neg h]
theorem soilJ_ok {J : Prop} {L : List Nat} {t : Nat} (h : okD L) (ht : t < 12) : okD (soilJ J L t) := by
  by_cases hJ : J
  · rw [← soilJ_t hJ]; exact soil_ok h ht
  · rw [← soilJ_f hJ]; exact h
noncomputable def stlF (J : Prop) (b s : Nat → Int64) (L : List Nat) : Nat → List Nat
  | 0 => L
  | i + 1 => if 0 < nDif (b i) (s i) then soilJ J (stlF J b s L i) i else stlF J b s L i
theorem stlF_t {J : Prop} {b s : Nat → Int64} {L P : List Nat} {i : Nat} (h : P = stlF J b s L i) (c : 0 < nDif (b i) (s i)) : soilJ J P i = stlF J b s L (i + 1) := by
  show _ = if 0 < nDif (b i) (s i) then soilJ J (stlF J b s L i) i else stlF J b s L i
  rw [if_pos c, h]
theorem stlF_f {J : Prop} {b s : Nat → Int64} {L P : List Nat} {i : Nat} (h : P = stlF J b s L i) (c : ¬ 0 < nDif (b i) (s i)) : P = stlF J b s L (i + 1) := by
  show _ = if 0 < nDif (b i) (s i) then soilJ J (stlF J b s L i) i else stlF J b s L i
  rw [if_neg c, h]
theorem stlF_ok {J : Prop} {b s : Nat → Int64} {L : List Nat} (h : okD L) : ∀ i, i ≤ 12 → okD (stlF J b s L i)
  | 0, _ => h
  | i + 1, hi => by
    have := stlF_ok (J := J) (b := b) (s := s) h i (by omega)
    show okD (if 0 < nDif (b i) (s i) then soilJ J (stlF J b s L i) i else stlF J b s L i)
    split
    · exact soilJ_ok this (by omega)
    · exact this
def sumD (b s : Nat → Int64) : Nat → Nat
  | 0 => 0
  | i + 1 => sumD b s i + nDif (b i) (s i)
theorem sumD_le (b s : Nat → Int64) : ∀ i, sumD b s i ≤ 16 * i
  | 0 => Nat.le_refl _
  | i + 1 => by have h1 := sumD_le b s i; have h2 := nDif_le (b i) (s i); show sumD b s i + nDif (b i) (s i) ≤ _; omega
theorem cwF_4 (u : Nat → Nat) : (cwF u 5).1 ≤ 4 := by
  have h := (cwF_le u 4).1
  show (if u 4 < (cwF u 4).2 then (4, u 4) else cwF u 4).1 ≤ 4
  split
  · exact Nat.le_refl _
  · exact h
theorem wayO_le (L : List Int64) (x : Int64) : wayO L x ≤ 499 := by
  have h1 := cwF_4 (unW L x)
  have h2 := (cwF_le (unW L x) 5).2
  unfold wayO
  omega
/-- a message is written: what is still dirty, the message, the cache, the units left, how many in each way -/
def askF (s : Nat → Int64) : List Nat → List (Nat × Int64) → List Int64 → Nat → (Nat → Int32) → List Nat × List (Nat × Int64) × List Int64 × Nat × (Nat → Int32)
  | [], M, C, b, w => ([], M, C, b, w)
  | t :: r, M, C, b, w => if wayO C (s t) % 100 ≤ b then askF s r (M ++ [(t, s t)]) (brg C (s t)) (b - wayO C (s t) % 100) (upd w (wayO C (s t) / 100) (w (wayO C (s t) / 100) + nI 1)) else (t :: r, M, C, b, w)
theorem drop_get {L : List Nat} {i : Nat} (h : i < L.length) : L.drop i = L.getD i 0 :: L.drop (i + 1) := by
  rw [List.drop_eq_getElem_cons h, List.getD_eq_getElem?_getD, List.getElem?_eq_getElem h]; rfl
theorem drop_getD (L : List Nat) (i j : Nat) : (L.drop i).getD j 0 = L.getD (j + i) 0 := by
  rw [List.getD_eq_getElem?_getD, List.getD_eq_getElem?_getD, List.getElem?_drop, Nat.add_comm]
theorem okD_drop {L : List Nat} (h : okD L) (i : Nat) : okD (L.drop i) := ⟨h.1.sublist (List.drop_sublist i L), fun d hd => h.2 d (List.mem_of_mem_drop hd)⟩
theorem askF_t {s : Nat → Int64} {L : List Nat} {i b : Nat} {M : List (Nat × Int64)} {C : List Int64} {w : Nat → Int32} (hi : i < L.length) (h : wayO C (s (L.getD i 0)) % 100 ≤ b) :
    askF s (L.drop i) M C b w = askF s (L.drop (i + 1)) (M ++ [(L.getD i 0, s (L.getD i 0))]) (brg C (s (L.getD i 0))) (b - wayO C (s (L.getD i 0)) % 100) (upd w (wayO C (s (L.getD i 0)) / 100) (w (wayO C (s (L.getD i 0)) / 100) + nI 1)) := by
  rw [drop_get hi]
  show (if _ then _ else _) = _
  rw [if_pos h]
theorem askF_f {s : Nat → Int64} {L : List Nat} {i b : Nat} {M : List (Nat × Int64)} {C : List Int64} {w : Nat → Int32} (hi : i < L.length) (h : ¬ wayO C (s (L.getD i 0)) % 100 ≤ b) :
    askF s (L.drop i) M C b w = (L.drop i, M, C, b, w) := by
  rw [drop_get hi]
  show (if _ then _ else _) = _
  rw [if_neg h]
theorem askF_e {s : Nat → Int64} {L : List Nat} {i b : Nat} {M : List (Nat × Int64)} {C : List Int64} {w : Nat → Int32} (hi : L.length ≤ i) :
    askF s (L.drop i) M C b w = (L.drop i, M, C, b, w) := by
  rw [List.drop_eq_nil_of_le hi]; rfl
theorem iX3_makeDirtyForAll_X3 : ∀ w ∈ wsX30, w ∈ wsX3_makeDirtyForAll := by decide +kernel
set_option maxHeartbeats 4000000 in
set_option maxRecDepth 100000 in
theorem c_X3_makeDirtyForAll (l : Launch) (D : va_G) (cy : Nat → ClassId) (sz : Nat) (a q r : Nat → Nat) (uw : Int32) (g : Nat → Option Nat) (J J9 : Prop) (k k9 : Int32) (L K : List Nat) (f h : Nat → Int32) (t : Nat) (hg0 : g 0 = some (q 0)) (hg1 : g 1 = some (r 0)) (hL : hN L f) (ho : okD L) (hK : hN K h) (hk9 : okD K) (ht : t < 12) : Met l yX3_makeDirtyForAll wsX3_makeDirtyForAll ({ frames := 1, cells := 0, slots := 0, locals := 22 } : Room) (va_Pc [.ref (a 0), .int (nI t)] (gI D (gT cy) [(a 0, eTop (a 1) (a 3) (a 5) (a 6) uw), (a 5, eQ cy 2 g), (q 0, eCli (gb (J)) (q 1) (q 3) (q 5) (q 7) (nI L.length) (q 8) (q 9) k), (q 7, eI cy 12 f), (r 0, eCli (gb (J9)) (r 1) (r 3) (r 5) (r 7) (nI K.length) (r 8) (r 9) k9), (r 7, eI cy 12 h)] sz)) (va_Qv (fun u : (List Nat) × (List Nat) × (Nat → Int32) × (Nat → Int32) => u.1 = soilJ J L t ∧ u.2.1 = soilJ J9 K t ∧ (hN (soilJ J L t) u.2.2.1 ∧ hN (soilJ J9 K t) u.2.2.2)) (gO D (fun u : (List Nat) × (List Nat) × (Nat → Int32) × (Nat → Int32) => [(a 0, eTop (a 1) (a 3) (a 5) (a 6) uw), (a 5, eQ cy 2 g), (q 0, eCli (gb (J)) (q 1) (q 3) (q 5) (q 7) (nI u.1.length) (q 8) (q 9) k), (q 7, eI cy 12 u.2.2.1), (r 0, eCli (gb (J9)) (r 1) (r 3) (r 5) (r 7) (nI u.2.1.length) (r 8) (r 9) k9), (r 7, eI cy 12 u.2.2.2)]) (va_A [(a 0, eTop (a 1) (a 3) (a 5) (a 6) uw), (a 5, eQ cy 2 g), (q 0, eCli (gb (J)) (q 1) (q 3) (q 5) (q 7) (nI L.length) (q 8) (q 9) k), (q 7, eI cy 12 f), (r 0, eCli (gb (J9)) (r 1) (r 3) (r 5) (r 7) (nI K.length) (r 8) (r 9) k9), (r 7, eI cy 12 h)] sz)) (va_A [(a 0, eTop (a 1) (a 3) (a 5) (a 6) uw), (a 5, eQ cy 2 g), (q 0, eCli (gb (J)) (q 1) (q 3) (q 5) (q 7) (nI L.length) (q 8) (q 9) k), (q 7, eI cy 12 f), (r 0, eCli (gb (J9)) (r 1) (r 3) (r 5) (r 7) (nI K.length) (r 8) (r 9) k9), (r 7, eI cy 12 h)] sz)) 0 0 (va_A [(a 0, eTop (a 1) (a 3) (a 5) (a 6) uw), (a 5, eQ cy 2 g), (q 0, eCli (gb (J)) (q 1) (q 3) (q 5) (q 7) (nI L.length) (q 8) (q 9) k), (q 7, eI cy 12 f), (r 0, eCli (gb (J9)) (r 1) (r 3) (r 5) (r 7) (nI K.length) (r 8) (r 9) k9), (r 7, eI cy 12 h)] sz) := by
  refine gW_v (cc := cX3_makeDirtyForAll) (maxL := 3) (by decide) rfl (Nat.le_of_ble_eq_true rfl) ?_
  intro pp ee ss mm bw mt cd QQ AA ls hfx hP hG hD hA hret hl
  have hS : va_S AA ss.heap ss.heap [] := va_S.rf
  obtain ⟨H, eH⟩ : ∃ H, H = ss.heap := ⟨_, rfl⟩
  obtain ⟨locs, eL⟩ : ∃ L : List Loc, L = [] := ⟨_, rfl⟩
  have hP : va_P D vwCl [(a 0, eTop (a 1) (a 3) (a 5) (a 6) uw), (a 5, eQ cy 2 g), (q 0, eCli (gb (J)) (q 1) (q 3) (q 5) (q 7) (nI L.length) (q 8) (q 9) k), (q 7, eI cy 12 f), (r 0, eCli (gb (J9)) (r 1) (r 3) (r 5) (r 7) (nI K.length) (r 8) (r 9) k9), (r 7, eI cy 12 h)] H := by rw [eH]; exact hP
  have hS : va_S AA ss.heap H locs := by rw [eH, eL]; exact hS
  have goal : ∀ X Y, X = H → Y = locs → W pp l ee ({ frames := 1, cells := 0, slots := 0, locals := 22 } : Room) ss mm ([.ref (a 0), .int (nI t)] : List Value).toArray bw mt cd X Y 0 0 QQ (F0 mm 0 ls []) → W pp l ee ({ frames := 1, cells := 0, slots := 0, locals := 22 } : Room) ss mm ([.ref (a 0), .int (nI t)] : List Value).toArray bw mt cd ss.heap [] 0 0 QQ (F0 mm 0 ls []) := fun X Y hX hY h => by rw [hX, hY, eH, eL] at h; exact h
  refine goal H locs rfl rfl ?_
  clear goal eH eL
  obtain ⟨hx, hb, hml, hown, hts, hlocks⟩ := hfx
  have hown : ss.vm.findClass RX3 = some mm.cls := hown
  have hl : lv_has ls 3 [(0, .ref (a 0)), (1, .int (nI t))] := hl
  refine lv_iconst (v := nI 0) hx hb dX3_makeDirtyForAll_0 (by decide) ?_
  refine lv_istore_n (lv' := [(2, .int (nI 0)), (0, .ref (a 0)), (1, .int (nI t))]) hx hb dX3_makeDirtyForAll_1 rfl hl (by decide) rfl (fun ls hl => ?_)
  refine lv_iload_n hx hb dX3_makeDirtyForAll_2 rfl (lv_at hl 0 rfl) ?_
  refine lv_aload_n hx hb dX3_makeDirtyForAll_3 rfl (lv_at hl 1 rfl) ?_
  refine va_get (D := D) (ci := 3) (v := .ref (a 5)) (C := RX3) (T := TX3) (N := 5) hx hb hts iX3_makeDirtyForAll_X3 hown hG.1 hP 0 rfl rfl 2 (by decide) (hts (.fieldLink RX3 21 "DirtyTiles" "clients" "[LDirtyTiles$Client;") (by decide +kernel)) (fun _ h9 => h9) rfl dX3_makeDirtyForAll_4 ?_
  refine va_alen (v := nI 2) hx hb hG.1 hP 1 3 rfl (ty := .object "DirtyTiles$Client") rfl rfl dX3_makeDirtyForAll_7 ?_
  refine lv_icmp_ge (tgt := 39) hx hb dX3_makeDirtyForAll_8 (by decide) (fun c_8 => ?_) (fun c_8 => ?_)
  · skip
    have c_8 : 2 ≤ 0 := (nI_leI (a := 2) (b := 0) (by omega) (by omega)).mp c_8
    exact absurd c_8 (by decide)
  · skip
    have c_8 : ¬ 2 ≤ 0 := fun z => c_8 ((nI_leI (a := 2) (b := 0) (by omega) (by omega)).mpr z)
    refine lv_aload_n hx hb dX3_makeDirtyForAll_11 rfl (lv_at hl 1 rfl) ?_
    refine va_get (D := D) (ci := 3) (v := .ref (a 5)) (C := RX3) (T := TX3) (N := 5) hx hb hts iX3_makeDirtyForAll_X3 hown hG.1 hP 0 rfl rfl 2 (by decide) (hts (.fieldLink RX3 21 "DirtyTiles" "clients" "[LDirtyTiles$Client;") (by decide +kernel)) (fun _ h9 => h9) rfl dX3_makeDirtyForAll_12 ?_
    refine lv_iload_n hx hb dX3_makeDirtyForAll_15 rfl (lv_at hl 0 rfl) ?_
    refine g_aldq hx hb hG hP 1 3 rfl rfl (k := 0) (x := q 0) (by omega) (by decide) hg0 dX3_makeDirtyForAll_16 ?_
    refine gc_Si (va_runV (As := []) (rest := []) ⟨hx, hb, hml, hown, hts⟩ (c_X1_hasJoined l D cy q J (nI L.length) k) (cwV 0 hts gX3_makeDirtyForAll_X1_hasJoined rfl rfl rfl (by decide +kernel) ⟨Nat.le_of_ble_eq_true rfl, Nat.le_of_ble_eq_true rfl⟩) (gpVR (ci := 1) (q0 := 0) hG (hP.sub [2] rfl) rfl rfl) rfl rfl hl.1 rfl (lv_room (Nat.le_of_ble_eq_true rfl)) dX3_makeDirtyForAll_17 ⟨Nat.zero_le _, Nat.zero_le _⟩) ?_
    refine lv_if_eq (tgt := 33) hx hb dX3_makeDirtyForAll_20 (by decide) (fun c_20 => ?_) (fun c_20 => ?_)
    · skip
      have c_20 : ¬ (J) := gb_eq0.mp c_20
      refine lv_iinc (v := nI 1) (lv' := [(2, .int (nI 1)), (0, .ref (a 0)), (1, .int (nI t))]) hx hb dX3_makeDirtyForAll_33 hl (k := 0) rfl (by decide) (by decide) rfl (fun ls hl => ?_)
      refine lv_goto (tgt := 2) hx hb dX3_makeDirtyForAll_36 (by decide) ?_
      refine lv_iload_n hx hb dX3_makeDirtyForAll_2 rfl (lv_at hl 0 rfl) ?_
      refine lv_aload_n hx hb dX3_makeDirtyForAll_3 rfl (lv_at hl 1 rfl) ?_
      refine va_get (D := D) (ci := 3) (v := .ref (a 5)) (C := RX3) (T := TX3) (N := 5) hx hb hts iX3_makeDirtyForAll_X3 hown hG.1 hP 0 rfl rfl 2 (by decide) (hts (.fieldLink RX3 21 "DirtyTiles" "clients" "[LDirtyTiles$Client;") (by decide +kernel)) (fun _ h9 => h9) rfl dX3_makeDirtyForAll_4 ?_
      refine va_alen (v := nI 2) hx hb hG.1 hP 1 3 rfl (ty := .object "DirtyTiles$Client") rfl rfl dX3_makeDirtyForAll_7 ?_
      refine lv_icmp_ge (tgt := 39) hx hb dX3_makeDirtyForAll_8 (by decide) (fun c_8 => ?_) (fun c_8 => ?_)
      · skip
        have c_8 : 2 ≤ 1 := (nI_leI (a := 2) (b := 1) (by omega) (by omega)).mp c_8
        exact absurd c_8 (by decide)
      · skip
        have c_8 : ¬ 2 ≤ 1 := fun z => c_8 ((nI_leI (a := 2) (b := 1) (by omega) (by omega)).mpr z)
        refine lv_aload_n hx hb dX3_makeDirtyForAll_11 rfl (lv_at hl 1 rfl) ?_
        refine va_get (D := D) (ci := 3) (v := .ref (a 5)) (C := RX3) (T := TX3) (N := 5) hx hb hts iX3_makeDirtyForAll_X3 hown hG.1 hP 0 rfl rfl 2 (by decide) (hts (.fieldLink RX3 21 "DirtyTiles" "clients" "[LDirtyTiles$Client;") (by decide +kernel)) (fun _ h9 => h9) rfl dX3_makeDirtyForAll_12 ?_
        refine lv_iload_n hx hb dX3_makeDirtyForAll_15 rfl (lv_at hl 0 rfl) ?_
        refine g_aldq hx hb hG hP 1 3 rfl rfl (k := 1) (x := r 0) (by omega) (by decide) hg1 dX3_makeDirtyForAll_16 ?_
        refine gc_Si (va_runV (As := []) (rest := []) ⟨hx, hb, hml, hown, hts⟩ (c_X1_hasJoined l D cy r J9 (nI K.length) k9) (cwV 0 hts gX3_makeDirtyForAll_X1_hasJoined rfl rfl rfl (by decide +kernel) ⟨Nat.le_of_ble_eq_true rfl, Nat.le_of_ble_eq_true rfl⟩) (gpVR (ci := 1) (q0 := 0) hG (hP.sub [4] rfl) rfl rfl) rfl rfl hl.1 rfl (lv_room (Nat.le_of_ble_eq_true rfl)) dX3_makeDirtyForAll_17 ⟨Nat.zero_le _, Nat.zero_le _⟩) ?_
        refine lv_if_eq (tgt := 33) hx hb dX3_makeDirtyForAll_20 (by decide) (fun c_20 => ?_) (fun c_20 => ?_)
        · skip
          have c_20 : ¬ (J9) := gb_eq0.mp c_20
          refine lv_iinc (v := nI 2) (lv' := [(2, .int (nI 2)), (0, .ref (a 0)), (1, .int (nI t))]) hx hb dX3_makeDirtyForAll_33 hl (k := 0) rfl (by decide) (by decide) rfl (fun ls hl => ?_)
          refine lv_goto (tgt := 2) hx hb dX3_makeDirtyForAll_36 (by decide) ?_
          refine lv_iload_n hx hb dX3_makeDirtyForAll_2 rfl (lv_at hl 0 rfl) ?_
          refine lv_aload_n hx hb dX3_makeDirtyForAll_3 rfl (lv_at hl 1 rfl) ?_
          refine va_get (D := D) (ci := 3) (v := .ref (a 5)) (C := RX3) (T := TX3) (N := 5) hx hb hts iX3_makeDirtyForAll_X3 hown hG.1 hP 0 rfl rfl 2 (by decide) (hts (.fieldLink RX3 21 "DirtyTiles" "clients" "[LDirtyTiles$Client;") (by decide +kernel)) (fun _ h9 => h9) rfl dX3_makeDirtyForAll_4 ?_
          refine va_alen (v := nI 2) hx hb hG.1 hP 1 3 rfl (ty := .object "DirtyTiles$Client") rfl rfl dX3_makeDirtyForAll_7 ?_
          refine lv_icmp_ge (tgt := 39) hx hb dX3_makeDirtyForAll_8 (by decide) (fun c_8 => ?_) (fun c_8 => ?_)
          · skip
            have c_8 : 2 ≤ 2 := (nI_leI (a := 2) (b := 2) (by omega) (by omega)).mp c_8
            exact hret _ _ _ _ ⟨L, K, f, h⟩ dX3_makeDirtyForAll_39 (by refine ⟨?_, ?_, ?_, ?_⟩ <;> first | exact soilJ_t (by assumption) | exact soilJ_f (by assumption) | (rw [← soilJ_t (by assumption)]; assumption) | (rw [← soilJ_f (by assumption)]; assumption)) (hP.sub [0, 1, 2, 3, 4, 5] rfl) (hD.sub [0, 1, 2, 3, 4, 5] (by decide) rfl) hS
          · skip
            have c_8 : ¬ 2 ≤ 2 := fun z => c_8 ((nI_leI (a := 2) (b := 2) (by omega) (by omega)).mpr z)
            exact absurd c_8 (by decide)
        · skip
          have c_20 : J9 := gb_ne0.mp c_20
          refine lv_aload_n hx hb dX3_makeDirtyForAll_23 rfl (lv_at hl 1 rfl) ?_
          refine va_get (D := D) (ci := 3) (v := .ref (a 5)) (C := RX3) (T := TX3) (N := 5) hx hb hts iX3_makeDirtyForAll_X3 hown hG.1 hP 0 rfl rfl 2 (by decide) (hts (.fieldLink RX3 21 "DirtyTiles" "clients" "[LDirtyTiles$Client;") (by decide +kernel)) (fun _ h9 => h9) rfl dX3_makeDirtyForAll_24 ?_
          refine lv_iload_n hx hb dX3_makeDirtyForAll_27 rfl (lv_at hl 0 rfl) ?_
          refine g_aldq hx hb hG hP 1 3 rfl rfl (k := 1) (x := r 0) (by omega) (by decide) hg1 dX3_makeDirtyForAll_28 ?_
          refine lv_iload_n hx hb dX3_makeDirtyForAll_29 rfl (lv_at hl 2 rfl) ?_
          refine gc_Wv (wn := fun u => [(a 0, eTop (a 1) (a 3) (a 5) (a 6) uw), (a 5, eQ cy 2 g), (q 0, eCli (gb (J)) (q 1) (q 3) (q 5) (q 7) (nI L.length) (q 8) (q 9) k), (q 7, eI cy 12 f), (r 0, eCli (gb (J9)) (r 1) (r 3) (r 5) (r 7) (nI u.1.length) (r 8) (r 9) k9), (r 7, eI cy 12 u.2)]) (wr := [(a 0, eTop (a 1) (a 3) (a 5) (a 6) uw), (a 5, eQ cy 2 g), (q 0, eCli (gb (J)) (q 1) (q 3) (q 5) (q 7) (nI L.length) (q 8) (q 9) k), (q 7, eI cy 12 f)]) (va_runV (As := [.int (nI t)]) (rest := []) ⟨hx, hb, hml, hown, hts⟩ (c_X1_makeDirty l D cy H.size r J9 k9 K h t hK hk9 ht) (cwV 1 hts gX3_makeDirtyForAll_X1_makeDirty rfl rfl rfl (by decide +kernel) ⟨Nat.le_of_ble_eq_true rfl, Nat.le_of_ble_eq_true rfl⟩) (gpVI (ci := 1) (q0 := 0) hG (hP.sub [4, 5] rfl) (hD.sub [4, 5] (by decide) rfl) rfl rfl) rfl rfl hl.1 rfl (lv_room (Nat.le_of_ble_eq_true rfl)) dX3_makeDirtyForAll_30 ⟨Nat.zero_le _, Nat.zero_le _⟩) hP hD hS hA [4, 5] [0, 1, 2, 3] [0, 1, 2, 3, 4, 5] rfl rfl (by decide) (by decide) (fun _ => rfl) (by decide) (fun u9 H locs hw_30 hP hD hS => ?_)
          obtain ⟨L2_30, h1⟩ := u9
          have hP : va_P D vwCl [(a 0, eTop (a 1) (a 3) (a 5) (a 6) uw), (a 5, eQ cy 2 g), (q 0, eCli (gb (J)) (q 1) (q 3) (q 5) (q 7) (nI L.length) (q 8) (q 9) k), (q 7, eI cy 12 f), (r 0, eCli (gb (J9)) (r 1) (r 3) (r 5) (r 7) (nI L2_30.length) (r 8) (r 9) k9), (r 7, eI cy 12 h1)] H := hP
          have hD : va_D AA [(a 0, eTop (a 1) (a 3) (a 5) (a 6) uw), (a 5, eQ cy 2 g), (q 0, eCli (gb (J)) (q 1) (q 3) (q 5) (q 7) (nI L.length) (q 8) (q 9) k), (q 7, eI cy 12 f), (r 0, eCli (gb (J9)) (r 1) (r 3) (r 5) (r 7) (nI L2_30.length) (r 8) (r 9) k9), (r 7, eI cy 12 h1)] := hD
          obtain ⟨ef_30, hw_30⟩ := hw_30
          subst ef_30
          have hP : va_P D vwCl [(a 0, eTop (a 1) (a 3) (a 5) (a 6) uw), (a 5, eQ cy 2 g), (q 0, eCli (gb (J)) (q 1) (q 3) (q 5) (q 7) (nI L.length) (q 8) (q 9) k), (q 7, eI cy 12 f), (r 0, eCli (gb (J9)) (r 1) (r 3) (r 5) (r 7) (nI (soil K t).length) (r 8) (r 9) k9), (r 7, eI cy 12 h1)] H := hP
          have hD : va_D AA [(a 0, eTop (a 1) (a 3) (a 5) (a 6) uw), (a 5, eQ cy 2 g), (q 0, eCli (gb (J)) (q 1) (q 3) (q 5) (q 7) (nI L.length) (q 8) (q 9) k), (q 7, eI cy 12 f), (r 0, eCli (gb (J9)) (r 1) (r 3) (r 5) (r 7) (nI (soil K t).length) (r 8) (r 9) k9), (r 7, eI cy 12 h1)] := hD
          have hw_30 : hN (soil K t) h1 := hw_30
          refine lv_iinc (v := nI 2) (lv' := [(2, .int (nI 2)), (0, .ref (a 0)), (1, .int (nI t))]) hx hb dX3_makeDirtyForAll_33 hl (k := 0) rfl (by decide) (by decide) rfl (fun ls hl => ?_)
          refine lv_goto (tgt := 2) hx hb dX3_makeDirtyForAll_36 (by decide) ?_
          refine lv_iload_n hx hb dX3_makeDirtyForAll_2 rfl (lv_at hl 0 rfl) ?_
          refine lv_aload_n hx hb dX3_makeDirtyForAll_3 rfl (lv_at hl 1 rfl) ?_
          refine va_get (D := D) (ci := 3) (v := .ref (a 5)) (C := RX3) (T := TX3) (N := 5) hx hb hts iX3_makeDirtyForAll_X3 hown hG.1 hP 0 rfl rfl 2 (by decide) (hts (.fieldLink RX3 21 "DirtyTiles" "clients" "[LDirtyTiles$Client;") (by decide +kernel)) (fun _ h9 => h9) rfl dX3_makeDirtyForAll_4 ?_
          refine va_alen (v := nI 2) hx hb hG.1 hP 1 3 rfl (ty := .object "DirtyTiles$Client") rfl rfl dX3_makeDirtyForAll_7 ?_
          refine lv_icmp_ge (tgt := 39) hx hb dX3_makeDirtyForAll_8 (by decide) (fun c_8 => ?_) (fun c_8 => ?_)
          · skip
            have c_8 : 2 ≤ 2 := (nI_leI (a := 2) (b := 2) (by omega) (by omega)).mp c_8
            exact hret _ _ _ _ ⟨L, (soil K t), f, h1⟩ dX3_makeDirtyForAll_39 (by refine ⟨?_, ?_, ?_, ?_⟩ <;> first | exact soilJ_t (by assumption) | exact soilJ_f (by assumption) | (rw [← soilJ_t (by assumption)]; assumption) | (rw [← soilJ_f (by assumption)]; assumption)) (hP.sub [0, 1, 2, 3, 4, 5] rfl) (hD.sub [0, 1, 2, 3, 4, 5] (by decide) rfl) hS
          · skip
            have c_8 : ¬ 2 ≤ 2 := fun z => c_8 ((nI_leI (a := 2) (b := 2) (by omega) (by omega)).mpr z)
            exact absurd c_8 (by decide)
    · skip
      have c_20 : J := gb_ne0.mp c_20
      refine lv_aload_n hx hb dX3_makeDirtyForAll_23 rfl (lv_at hl 1 rfl) ?_
      refine va_get (D := D) (ci := 3) (v := .ref (a 5)) (C := RX3) (T := TX3) (N := 5) hx hb hts iX3_makeDirtyForAll_X3 hown hG.1 hP 0 rfl rfl 2 (by decide) (hts (.fieldLink RX3 21 "DirtyTiles" "clients" "[LDirtyTiles$Client;") (by decide +kernel)) (fun _ h9 => h9) rfl dX3_makeDirtyForAll_24 ?_
      refine lv_iload_n hx hb dX3_makeDirtyForAll_27 rfl (lv_at hl 0 rfl) ?_
      refine g_aldq hx hb hG hP 1 3 rfl rfl (k := 0) (x := q 0) (by omega) (by decide) hg0 dX3_makeDirtyForAll_28 ?_
      refine lv_iload_n hx hb dX3_makeDirtyForAll_29 rfl (lv_at hl 2 rfl) ?_
      refine gc_Wv (wn := fun u => [(a 0, eTop (a 1) (a 3) (a 5) (a 6) uw), (a 5, eQ cy 2 g), (q 0, eCli (gb (J)) (q 1) (q 3) (q 5) (q 7) (nI u.1.length) (q 8) (q 9) k), (q 7, eI cy 12 u.2), (r 0, eCli (gb (J9)) (r 1) (r 3) (r 5) (r 7) (nI K.length) (r 8) (r 9) k9), (r 7, eI cy 12 h)]) (wr := [(a 0, eTop (a 1) (a 3) (a 5) (a 6) uw), (a 5, eQ cy 2 g), (r 0, eCli (gb (J9)) (r 1) (r 3) (r 5) (r 7) (nI K.length) (r 8) (r 9) k9), (r 7, eI cy 12 h)]) (va_runV (As := [.int (nI t)]) (rest := []) ⟨hx, hb, hml, hown, hts⟩ (c_X1_makeDirty l D cy H.size q J k L f t hL ho ht) (cwV 1 hts gX3_makeDirtyForAll_X1_makeDirty rfl rfl rfl (by decide +kernel) ⟨Nat.le_of_ble_eq_true rfl, Nat.le_of_ble_eq_true rfl⟩) (gpVI (ci := 1) (q0 := 0) hG (hP.sub [2, 3] rfl) (hD.sub [2, 3] (by decide) rfl) rfl rfl) rfl rfl hl.1 rfl (lv_room (Nat.le_of_ble_eq_true rfl)) dX3_makeDirtyForAll_30 ⟨Nat.zero_le _, Nat.zero_le _⟩) hP hD hS hA [2, 3] [0, 1, 4, 5] [0, 1, 4, 5, 2, 3] rfl rfl (by decide) (by decide) (fun _ => rfl) (by decide) (fun u9 H locs hw_30 hP hD hS => ?_)
      obtain ⟨L2_30_2, f1_2⟩ := u9
      have hP : va_P D vwCl [(a 0, eTop (a 1) (a 3) (a 5) (a 6) uw), (a 5, eQ cy 2 g), (q 0, eCli (gb (J)) (q 1) (q 3) (q 5) (q 7) (nI L2_30_2.length) (q 8) (q 9) k), (q 7, eI cy 12 f1_2), (r 0, eCli (gb (J9)) (r 1) (r 3) (r 5) (r 7) (nI K.length) (r 8) (r 9) k9), (r 7, eI cy 12 h)] H := hP
      have hD : va_D AA [(a 0, eTop (a 1) (a 3) (a 5) (a 6) uw), (a 5, eQ cy 2 g), (q 0, eCli (gb (J)) (q 1) (q 3) (q 5) (q 7) (nI L2_30_2.length) (q 8) (q 9) k), (q 7, eI cy 12 f1_2), (r 0, eCli (gb (J9)) (r 1) (r 3) (r 5) (r 7) (nI K.length) (r 8) (r 9) k9), (r 7, eI cy 12 h)] := hD
      obtain ⟨ef_30, hw_30⟩ := hw_30
      subst ef_30
      have hP : va_P D vwCl [(a 0, eTop (a 1) (a 3) (a 5) (a 6) uw), (a 5, eQ cy 2 g), (q 0, eCli (gb (J)) (q 1) (q 3) (q 5) (q 7) (nI (soil L t).length) (q 8) (q 9) k), (q 7, eI cy 12 f1_2), (r 0, eCli (gb (J9)) (r 1) (r 3) (r 5) (r 7) (nI K.length) (r 8) (r 9) k9), (r 7, eI cy 12 h)] H := hP
      have hD : va_D AA [(a 0, eTop (a 1) (a 3) (a 5) (a 6) uw), (a 5, eQ cy 2 g), (q 0, eCli (gb (J)) (q 1) (q 3) (q 5) (q 7) (nI (soil L t).length) (q 8) (q 9) k), (q 7, eI cy 12 f1_2), (r 0, eCli (gb (J9)) (r 1) (r 3) (r 5) (r 7) (nI K.length) (r 8) (r 9) k9), (r 7, eI cy 12 h)] := hD
      have hw_30 : hN (soil L t) f1_2 := hw_30
      refine lv_iinc (v := nI 1) (lv' := [(2, .int (nI 1)), (0, .ref (a 0)), (1, .int (nI t))]) hx hb dX3_makeDirtyForAll_33 hl (k := 0) rfl (by decide) (by decide) rfl (fun ls hl => ?_)
      refine lv_goto (tgt := 2) hx hb dX3_makeDirtyForAll_36 (by decide) ?_
      refine lv_iload_n hx hb dX3_makeDirtyForAll_2 rfl (lv_at hl 0 rfl) ?_
      refine lv_aload_n hx hb dX3_makeDirtyForAll_3 rfl (lv_at hl 1 rfl) ?_
      refine va_get (D := D) (ci := 3) (v := .ref (a 5)) (C := RX3) (T := TX3) (N := 5) hx hb hts iX3_makeDirtyForAll_X3 hown hG.1 hP 0 rfl rfl 2 (by decide) (hts (.fieldLink RX3 21 "DirtyTiles" "clients" "[LDirtyTiles$Client;") (by decide +kernel)) (fun _ h9 => h9) rfl dX3_makeDirtyForAll_4 ?_
      refine va_alen (v := nI 2) hx hb hG.1 hP 1 3 rfl (ty := .object "DirtyTiles$Client") rfl rfl dX3_makeDirtyForAll_7 ?_
      refine lv_icmp_ge (tgt := 39) hx hb dX3_makeDirtyForAll_8 (by decide) (fun c_8 => ?_) (fun c_8 => ?_)
      · skip
        have c_8 : 2 ≤ 1 := (nI_leI (a := 2) (b := 1) (by omega) (by omega)).mp c_8
        exact absurd c_8 (by decide)
      · skip
        have c_8 : ¬ 2 ≤ 1 := fun z => c_8 ((nI_leI (a := 2) (b := 1) (by omega) (by omega)).mpr z)
        refine lv_aload_n hx hb dX3_makeDirtyForAll_11 rfl (lv_at hl 1 rfl) ?_
        refine va_get (D := D) (ci := 3) (v := .ref (a 5)) (C := RX3) (T := TX3) (N := 5) hx hb hts iX3_makeDirtyForAll_X3 hown hG.1 hP 0 rfl rfl 2 (by decide) (hts (.fieldLink RX3 21 "DirtyTiles" "clients" "[LDirtyTiles$Client;") (by decide +kernel)) (fun _ h9 => h9) rfl dX3_makeDirtyForAll_12 ?_
        refine lv_iload_n hx hb dX3_makeDirtyForAll_15 rfl (lv_at hl 0 rfl) ?_
        refine g_aldq hx hb hG hP 1 3 rfl rfl (k := 1) (x := r 0) (by omega) (by decide) hg1 dX3_makeDirtyForAll_16 ?_
        refine gc_Si (va_runV (As := []) (rest := []) ⟨hx, hb, hml, hown, hts⟩ (c_X1_hasJoined l D cy r J9 (nI K.length) k9) (cwV 0 hts gX3_makeDirtyForAll_X1_hasJoined rfl rfl rfl (by decide +kernel) ⟨Nat.le_of_ble_eq_true rfl, Nat.le_of_ble_eq_true rfl⟩) (gpVR (ci := 1) (q0 := 0) hG (hP.sub [4] rfl) rfl rfl) rfl rfl hl.1 rfl (lv_room (Nat.le_of_ble_eq_true rfl)) dX3_makeDirtyForAll_17 ⟨Nat.zero_le _, Nat.zero_le _⟩) ?_
        refine lv_if_eq (tgt := 33) hx hb dX3_makeDirtyForAll_20 (by decide) (fun c_20 => ?_) (fun c_20 => ?_)
        · skip
          have c_20 : ¬ (J9) := gb_eq0.mp c_20
          refine lv_iinc (v := nI 2) (lv' := [(2, .int (nI 2)), (0, .ref (a 0)), (1, .int (nI t))]) hx hb dX3_makeDirtyForAll_33 hl (k := 0) rfl (by decide) (by decide) rfl (fun ls hl => ?_)
          refine lv_goto (tgt := 2) hx hb dX3_makeDirtyForAll_36 (by decide) ?_
          refine lv_iload_n hx hb dX3_makeDirtyForAll_2 rfl (lv_at hl 0 rfl) ?_
          refine lv_aload_n hx hb dX3_makeDirtyForAll_3 rfl (lv_at hl 1 rfl) ?_
          refine va_get (D := D) (ci := 3) (v := .ref (a 5)) (C := RX3) (T := TX3) (N := 5) hx hb hts iX3_makeDirtyForAll_X3 hown hG.1 hP 0 rfl rfl 2 (by decide) (hts (.fieldLink RX3 21 "DirtyTiles" "clients" "[LDirtyTiles$Client;") (by decide +kernel)) (fun _ h9 => h9) rfl dX3_makeDirtyForAll_4 ?_
          refine va_alen (v := nI 2) hx hb hG.1 hP 1 3 rfl (ty := .object "DirtyTiles$Client") rfl rfl dX3_makeDirtyForAll_7 ?_
          refine lv_icmp_ge (tgt := 39) hx hb dX3_makeDirtyForAll_8 (by decide) (fun c_8 => ?_) (fun c_8 => ?_)
          · skip
            have c_8 : 2 ≤ 2 := (nI_leI (a := 2) (b := 2) (by omega) (by omega)).mp c_8
            exact hret _ _ _ _ ⟨(soil L t), K, f1_2, h⟩ dX3_makeDirtyForAll_39 (by refine ⟨?_, ?_, ?_, ?_⟩ <;> first | exact soilJ_t (by assumption) | exact soilJ_f (by assumption) | (rw [← soilJ_t (by assumption)]; assumption) | (rw [← soilJ_f (by assumption)]; assumption)) (hP.sub [0, 1, 2, 3, 4, 5] rfl) (hD.sub [0, 1, 2, 3, 4, 5] (by decide) rfl) hS
          · skip
            have c_8 : ¬ 2 ≤ 2 := fun z => c_8 ((nI_leI (a := 2) (b := 2) (by omega) (by omega)).mpr z)
            exact absurd c_8 (by decide)
        · skip
          have c_20 : J9 := gb_ne0.mp c_20
          refine lv_aload_n hx hb dX3_makeDirtyForAll_23 rfl (lv_at hl 1 rfl) ?_
          refine va_get (D := D) (ci := 3) (v := .ref (a 5)) (C := RX3) (T := TX3) (N := 5) hx hb hts iX3_makeDirtyForAll_X3 hown hG.1 hP 0 rfl rfl 2 (by decide) (hts (.fieldLink RX3 21 "DirtyTiles" "clients" "[LDirtyTiles$Client;") (by decide +kernel)) (fun _ h9 => h9) rfl dX3_makeDirtyForAll_24 ?_
          refine lv_iload_n hx hb dX3_makeDirtyForAll_27 rfl (lv_at hl 0 rfl) ?_
          refine g_aldq hx hb hG hP 1 3 rfl rfl (k := 1) (x := r 0) (by omega) (by decide) hg1 dX3_makeDirtyForAll_28 ?_
          refine lv_iload_n hx hb dX3_makeDirtyForAll_29 rfl (lv_at hl 2 rfl) ?_
          refine gc_Wv (wn := fun u => [(a 0, eTop (a 1) (a 3) (a 5) (a 6) uw), (a 5, eQ cy 2 g), (q 0, eCli (gb (J)) (q 1) (q 3) (q 5) (q 7) (nI (soil L t).length) (q 8) (q 9) k), (q 7, eI cy 12 f1_2), (r 0, eCli (gb (J9)) (r 1) (r 3) (r 5) (r 7) (nI u.1.length) (r 8) (r 9) k9), (r 7, eI cy 12 u.2)]) (wr := [(a 0, eTop (a 1) (a 3) (a 5) (a 6) uw), (a 5, eQ cy 2 g), (q 0, eCli (gb (J)) (q 1) (q 3) (q 5) (q 7) (nI (soil L t).length) (q 8) (q 9) k), (q 7, eI cy 12 f1_2)]) (va_runV (As := [.int (nI t)]) (rest := []) ⟨hx, hb, hml, hown, hts⟩ (c_X1_makeDirty l D cy H.size r J9 k9 K h t hK hk9 ht) (cwV 1 hts gX3_makeDirtyForAll_X1_makeDirty rfl rfl rfl (by decide +kernel) ⟨Nat.le_of_ble_eq_true rfl, Nat.le_of_ble_eq_true rfl⟩) (gpVI (ci := 1) (q0 := 0) hG (hP.sub [4, 5] rfl) (hD.sub [4, 5] (by decide) rfl) rfl rfl) rfl rfl hl.1 rfl (lv_room (Nat.le_of_ble_eq_true rfl)) dX3_makeDirtyForAll_30 ⟨Nat.zero_le _, Nat.zero_le _⟩) hP hD hS hA [4, 5] [0, 1, 2, 3] [0, 1, 2, 3, 4, 5] rfl rfl (by decide) (by decide) (fun _ => rfl) (by decide) (fun u9 H locs hw_30 hP hD hS => ?_)
          obtain ⟨L2_30_3, h1_3⟩ := u9
          have hP : va_P D vwCl [(a 0, eTop (a 1) (a 3) (a 5) (a 6) uw), (a 5, eQ cy 2 g), (q 0, eCli (gb (J)) (q 1) (q 3) (q 5) (q 7) (nI (soil L t).length) (q 8) (q 9) k), (q 7, eI cy 12 f1_2), (r 0, eCli (gb (J9)) (r 1) (r 3) (r 5) (r 7) (nI L2_30_3.length) (r 8) (r 9) k9), (r 7, eI cy 12 h1_3)] H := hP
          have hD : va_D AA [(a 0, eTop (a 1) (a 3) (a 5) (a 6) uw), (a 5, eQ cy 2 g), (q 0, eCli (gb (J)) (q 1) (q 3) (q 5) (q 7) (nI (soil L t).length) (q 8) (q 9) k), (q 7, eI cy 12 f1_2), (r 0, eCli (gb (J9)) (r 1) (r 3) (r 5) (r 7) (nI L2_30_3.length) (r 8) (r 9) k9), (r 7, eI cy 12 h1_3)] := hD
          obtain ⟨ef_30, hw_30⟩ := hw_30
          subst ef_30
          have hP : va_P D vwCl [(a 0, eTop (a 1) (a 3) (a 5) (a 6) uw), (a 5, eQ cy 2 g), (q 0, eCli (gb (J)) (q 1) (q 3) (q 5) (q 7) (nI (soil L t).length) (q 8) (q 9) k), (q 7, eI cy 12 f1_2), (r 0, eCli (gb (J9)) (r 1) (r 3) (r 5) (r 7) (nI (soil K t).length) (r 8) (r 9) k9), (r 7, eI cy 12 h1_3)] H := hP
          have hD : va_D AA [(a 0, eTop (a 1) (a 3) (a 5) (a 6) uw), (a 5, eQ cy 2 g), (q 0, eCli (gb (J)) (q 1) (q 3) (q 5) (q 7) (nI (soil L t).length) (q 8) (q 9) k), (q 7, eI cy 12 f1_2), (r 0, eCli (gb (J9)) (r 1) (r 3) (r 5) (r 7) (nI (soil K t).length) (r 8) (r 9) k9), (r 7, eI cy 12 h1_3)] := hD
          have hw_30 : hN (soil K t) h1_3 := hw_30
          refine lv_iinc (v := nI 2) (lv' := [(2, .int (nI 2)), (0, .ref (a 0)), (1, .int (nI t))]) hx hb dX3_makeDirtyForAll_33 hl (k := 0) rfl (by decide) (by decide) rfl (fun ls hl => ?_)
          refine lv_goto (tgt := 2) hx hb dX3_makeDirtyForAll_36 (by decide) ?_
          refine lv_iload_n hx hb dX3_makeDirtyForAll_2 rfl (lv_at hl 0 rfl) ?_
          refine lv_aload_n hx hb dX3_makeDirtyForAll_3 rfl (lv_at hl 1 rfl) ?_
          refine va_get (D := D) (ci := 3) (v := .ref (a 5)) (C := RX3) (T := TX3) (N := 5) hx hb hts iX3_makeDirtyForAll_X3 hown hG.1 hP 0 rfl rfl 2 (by decide) (hts (.fieldLink RX3 21 "DirtyTiles" "clients" "[LDirtyTiles$Client;") (by decide +kernel)) (fun _ h9 => h9) rfl dX3_makeDirtyForAll_4 ?_
          refine va_alen (v := nI 2) hx hb hG.1 hP 1 3 rfl (ty := .object "DirtyTiles$Client") rfl rfl dX3_makeDirtyForAll_7 ?_
          refine lv_icmp_ge (tgt := 39) hx hb dX3_makeDirtyForAll_8 (by decide) (fun c_8 => ?_) (fun c_8 => ?_)
          · skip
            have c_8 : 2 ≤ 2 := (nI_leI (a := 2) (b := 2) (by omega) (by omega)).mp c_8
            exact hret _ _ _ _ ⟨(soil L t), (soil K t), f1_2, h1_3⟩ dX3_makeDirtyForAll_39 (by refine ⟨?_, ?_, ?_, ?_⟩ <;> first | exact soilJ_t (by assumption) | exact soilJ_f (by assumption) | (rw [← soilJ_t (by assumption)]; assumption) | (rw [← soilJ_f (by assumption)]; assumption)) (hP.sub [0, 1, 2, 3, 4, 5] rfl) (hD.sub [0, 1, 2, 3, 4, 5] (by decide) rfl) hS
          · skip
            have c_8 : ¬ 2 ≤ 2 := fun z => c_8 ((nI_leI (a := 2) (b := 2) (by omega) (by omega)).mpr z)
            exact absurd c_8 (by decide)
theorem iX3_noteChanges_X3 : ∀ w ∈ wsX30, w ∈ wsX3_noteChanges := by decide +kernel
set_option maxHeartbeats 4000000 in
set_option maxRecDepth 100000 in
theorem c_X3_noteChanges (l : Launch) (D : va_G) (cy : Nat → ClassId) (sz : Nat) (fs fb : Nat → Int64) (a q r : Nat → Nat) (uw : Int32) (g : Nat → Option Nat) (J J9 : Prop) (k k9 : Int32) (L K : List Nat) (f h : Nat → Int32) (hg0 : g 0 = some (q 0)) (hg1 : g 1 = some (r 0)) (hL : hN L f) (ho : okD L) (hK : hN K h) (hk9 : okD K) : Met l yX3_noteChanges wsX3_noteChanges ({ frames := 2, cells := 0, slots := 0, locals := 47 } : Room) (va_Pc [.ref (a 0)] (gI D (gT cy) [(a 0, eTop (a 1) (a 3) (a 5) (a 6) uw), (a 1, eScr (a 2)), (a 2, eJ cy 12 fs), (a 3, eScr (a 4)), (a 4, eJ cy 12 fb), (a 5, eQ cy 2 g), (q 0, eCli (gb (J)) (q 1) (q 3) (q 5) (q 7) (nI L.length) (q 8) (q 9) k), (q 7, eI cy 12 f), (r 0, eCli (gb (J9)) (r 1) (r 3) (r 5) (r 7) (nI K.length) (r 8) (r 9) k9), (r 7, eI cy 12 h)] sz)) (va_Qi (fun (r9 : Int32) (u : (List Nat) × (List Nat) × (Nat → Int32) × (Nat → Int32)) => r9 = nI (sumD fb fs 12) ∧ (u.1 = stlF J fb fs L 12 ∧ u.2.1 = stlF J9 fb fs K 12 ∧ (hN u.1 u.2.2.1 ∧ hN u.2.1 u.2.2.2))) (gO D (fun u : (List Nat) × (List Nat) × (Nat → Int32) × (Nat → Int32) => [(a 0, eTop (a 1) (a 3) (a 5) (a 6) uw), (a 1, eScr (a 2)), (a 2, eJ cy 12 fs), (a 3, eScr (a 4)), (a 4, eJ cy 12 fb), (a 5, eQ cy 2 g), (q 0, eCli (gb (J)) (q 1) (q 3) (q 5) (q 7) (nI u.1.length) (q 8) (q 9) k), (q 7, eI cy 12 u.2.2.1), (r 0, eCli (gb (J9)) (r 1) (r 3) (r 5) (r 7) (nI u.2.1.length) (r 8) (r 9) k9), (r 7, eI cy 12 u.2.2.2)]) (va_A [(a 0, eTop (a 1) (a 3) (a 5) (a 6) uw), (a 1, eScr (a 2)), (a 2, eJ cy 12 fs), (a 3, eScr (a 4)), (a 4, eJ cy 12 fb), (a 5, eQ cy 2 g), (q 0, eCli (gb (J)) (q 1) (q 3) (q 5) (q 7) (nI L.length) (q 8) (q 9) k), (q 7, eI cy 12 f), (r 0, eCli (gb (J9)) (r 1) (r 3) (r 5) (r 7) (nI K.length) (r 8) (r 9) k9), (r 7, eI cy 12 h)] sz)) (va_A [(a 0, eTop (a 1) (a 3) (a 5) (a 6) uw), (a 1, eScr (a 2)), (a 2, eJ cy 12 fs), (a 3, eScr (a 4)), (a 4, eJ cy 12 fb), (a 5, eQ cy 2 g), (q 0, eCli (gb (J)) (q 1) (q 3) (q 5) (q 7) (nI L.length) (q 8) (q 9) k), (q 7, eI cy 12 f), (r 0, eCli (gb (J9)) (r 1) (r 3) (r 5) (r 7) (nI K.length) (r 8) (r 9) k9), (r 7, eI cy 12 h)] sz)) 0 0 (va_A [(a 0, eTop (a 1) (a 3) (a 5) (a 6) uw), (a 1, eScr (a 2)), (a 2, eJ cy 12 fs), (a 3, eScr (a 4)), (a 4, eJ cy 12 fb), (a 5, eQ cy 2 g), (q 0, eCli (gb (J)) (q 1) (q 3) (q 5) (q 7) (nI L.length) (q 8) (q 9) k), (q 7, eI cy 12 f), (r 0, eCli (gb (J9)) (r 1) (r 3) (r 5) (r 7) (nI K.length) (r 8) (r 9) k9), (r 7, eI cy 12 h)] sz) := by
  refine gW_i (cc := cX3_noteChanges) (maxL := 4) (ty := .int) (by decide) rfl (Nat.le_of_ble_eq_true rfl) (fun v u hv => by rfl) ?_
  intro pp ee ss mm bw mt cd QQ AA ls hfx hP hG hD hA hret hl
  have hS : va_S AA ss.heap ss.heap [] := va_S.rf
  obtain ⟨H, eH⟩ : ∃ H, H = ss.heap := ⟨_, rfl⟩
  obtain ⟨locs, eL⟩ : ∃ L : List Loc, L = [] := ⟨_, rfl⟩
  have hP : va_P D vwCl [(a 0, eTop (a 1) (a 3) (a 5) (a 6) uw), (a 1, eScr (a 2)), (a 2, eJ cy 12 fs), (a 3, eScr (a 4)), (a 4, eJ cy 12 fb), (a 5, eQ cy 2 g), (q 0, eCli (gb (J)) (q 1) (q 3) (q 5) (q 7) (nI L.length) (q 8) (q 9) k), (q 7, eI cy 12 f), (r 0, eCli (gb (J9)) (r 1) (r 3) (r 5) (r 7) (nI K.length) (r 8) (r 9) k9), (r 7, eI cy 12 h)] H := by rw [eH]; exact hP
  have hS : va_S AA ss.heap H locs := by rw [eH, eL]; exact hS
  have goal : ∀ X Y, X = H → Y = locs → W pp l ee ({ frames := 2, cells := 0, slots := 0, locals := 47 } : Room) ss mm ([.ref (a 0)] : List Value).toArray bw mt cd X Y 0 0 QQ (F0 mm 0 ls []) → W pp l ee ({ frames := 2, cells := 0, slots := 0, locals := 47 } : Room) ss mm ([.ref (a 0)] : List Value).toArray bw mt cd ss.heap [] 0 0 QQ (F0 mm 0 ls []) := fun X Y hX hY h => by rw [hX, hY, eH, eL] at h; exact h
  refine goal H locs rfl rfl ?_
  clear goal eH eL
  obtain ⟨hx, hb, hml, hown, hts, hlocks⟩ := hfx
  have hown : ss.vm.findClass RX3 = some mm.cls := hown
  have hl : lv_has ls 4 [(0, .ref (a 0))] := hl
  refine lv_iconst (v := nI 0) hx hb dX3_noteChanges_0 (by decide) ?_
  refine lv_istore_n (lv' := [(1, .int (nI 0)), (0, .ref (a 0))]) hx hb dX3_noteChanges_1 rfl hl (by decide) rfl (fun ls hl => ?_)
  refine lv_iconst (v := nI 0) hx hb dX3_noteChanges_2 (by decide) ?_
  refine lv_istore_n (lv' := [(2, .int (nI 0)), (1, .int (nI 0)), (0, .ref (a 0))]) hx hb dX3_noteChanges_3 rfl hl (by decide) rfl (fun ls hl => ?_)
  have loop_4 : ∀ (n9 : Nat) (i w : Nat) (L1 K1 : List Nat) (f1 h1 : Nat → Int32), 12 - i < n9 → (i ≤ 12) → (w = sumD fb fs i) → (L1 = stlF J fb fs L i) → (K1 = stlF J9 fb fs K i) → (hN L1 f1) → (hN K1 h1) → ∀ (H : Heap) (locs : List Loc) (ls : Array Slot), va_P D vwCl [(a 0, eTop (a 1) (a 3) (a 5) (a 6) uw), (a 1, eScr (a 2)), (a 2, eJ cy 12 fs), (a 3, eScr (a 4)), (a 4, eJ cy 12 fb), (a 5, eQ cy 2 g), (q 0, eCli (gb (J)) (q 1) (q 3) (q 5) (q 7) (nI L1.length) (q 8) (q 9) k), (q 7, eI cy 12 f1), (r 0, eCli (gb (J9)) (r 1) (r 3) (r 5) (r 7) (nI K1.length) (r 8) (r 9) k9), (r 7, eI cy 12 h1)] H → va_D AA [(a 0, eTop (a 1) (a 3) (a 5) (a 6) uw), (a 1, eScr (a 2)), (a 2, eJ cy 12 fs), (a 3, eScr (a 4)), (a 4, eJ cy 12 fb), (a 5, eQ cy 2 g), (q 0, eCli (gb (J)) (q 1) (q 3) (q 5) (q 7) (nI L1.length) (q 8) (q 9) k), (q 7, eI cy 12 f1), (r 0, eCli (gb (J9)) (r 1) (r 3) (r 5) (r 7) (nI K1.length) (r 8) (r 9) k9), (r 7, eI cy 12 h1)] → va_S AA ss.heap H locs → lv_has ls 4 [(0, .ref (a 0)), (1, .int (nI w)), (2, .int (nI i))] → W pp l ee ({ frames := 2, cells := 0, slots := 0, locals := 47 } : Room) ss mm ([.ref (a 0)] : List Value).toArray bw mt cd H locs 0 0 QQ (F0 mm 4 ls []) := by
    intro n9
    induction n9 with
    | zero => intro i w L1 K1 f1 h1 h9; exact absurd h9 (Nat.not_lt_zero _)
    | succ n9 ih_4 =>
      intro i w L1 K1 f1 h1 hm_4 hi hw hL1 hK1 hf1 hh1 H locs ls hP hD hS hl
      have o1 : okD L1 := by rw [hL1]; exact stlF_ok ho i hi
      have o2 : okD K1 := by rw [hK1]; exact stlF_ok hk9 i hi
      have z1 := nDif_le (fb i) (fs i)
      have z2 := sumD_le fb fs i
      refine lv_iload_n hx hb dX3_noteChanges_4 rfl (lv_at hl 2 rfl) ?_
      refine lv_bipush (v := nI 12) hx hb dX3_noteChanges_5 (by decide) ?_
      refine lv_icmp_ge (tgt := 49) hx hb dX3_noteChanges_7 (by decide) (fun c_7 => ?_) (fun c_7 => ?_)
      · skip
        have c_7 : 12 ≤ i := (nI_leI (a := 12) (b := i) (by omega) (by omega)).mp c_7
        refine lv_iload_n hx hb dX3_noteChanges_49 rfl (lv_at hl 1 rfl) ?_
        have e9 : i = 12 := by omega
        rw [e9] at hw hL1 hK1
        exact hret _ _ _ _ _ ⟨L1, K1, f1, h1⟩ dX3_noteChanges_50 (⟨by rw [hw], hL1, hK1, hf1, hh1⟩) (hP.sub [0, 1, 2, 3, 4, 5, 6, 7, 8, 9] rfl) (hD.sub [0, 1, 2, 3, 4, 5, 6, 7, 8, 9] (by decide) rfl) hS
      · skip
        have c_7 : ¬ 12 ≤ i := fun z => c_7 ((nI_leI (a := 12) (b := i) (by omega) (by omega)).mpr z)
        refine lv_aload_n hx hb dX3_noteChanges_10 rfl (lv_at hl 0 rfl) ?_
        refine va_get (D := D) (ci := 3) (v := .ref (a 3)) (C := RX3) (T := TX3) (N := 5) hx hb hts iX3_noteChanges_X3 hown hG.1 hP 0 rfl rfl 1 (by decide) (hts (.fieldLink RX3 16 "DirtyTiles" "screenBefore" "LDirtyTiles$Screen;") (by decide +kernel)) (fun _ h9 => h9) rfl dX3_noteChanges_11 ?_
        refine lv_iload_n hx hb dX3_noteChanges_14 rfl (lv_at hl 2 rfl) ?_
        refine gc_Sl (va_runV (As := [.int (nI i)]) (rest := []) ⟨hx, hb, hml, hown, hts⟩ (c_X2_cellsOf l D cy (a 3) (a 4) fb i (by omega)) (cwV 1 hts gX3_noteChanges_X2_cellsOf rfl rfl rfl (by decide +kernel) ⟨Nat.le_of_ble_eq_true rfl, Nat.le_of_ble_eq_true rfl⟩) (gpVR (ci := 2) (q0 := 0) hG (hP.sub [3, 4] rfl) rfl rfl) rfl rfl hl.1 rfl (lv_room (Nat.le_of_ble_eq_true rfl)) dX3_noteChanges_15 ⟨Nat.zero_le _, Nat.zero_le _⟩) ?_
        refine lv_aload_n hx hb dX3_noteChanges_18 rfl (lv_at hl 0 rfl) ?_
        refine va_get (D := D) (ci := 3) (v := .ref (a 1)) (C := RX3) (T := TX3) (N := 5) hx hb hts iX3_noteChanges_X3 hown hG.1 hP 0 rfl rfl 0 (by decide) (hts (.fieldLink RX3 10 "DirtyTiles" "screen" "LDirtyTiles$Screen;") (by decide +kernel)) (fun _ h9 => h9) rfl dX3_noteChanges_19 ?_
        refine lv_iload_n hx hb dX3_noteChanges_22 rfl (lv_at hl 2 rfl) ?_
        refine gc_Sl (va_runV (As := [.int (nI i)]) (rest := [.long (fb i)]) ⟨hx, hb, hml, hown, hts⟩ (c_X2_cellsOf l D cy (a 1) (a 2) fs i (by omega)) (cwV 1 hts gX3_noteChanges_X2_cellsOf rfl rfl rfl (by decide +kernel) ⟨Nat.le_of_ble_eq_true rfl, Nat.le_of_ble_eq_true rfl⟩) (gpVR (ci := 2) (q0 := 0) hG (hP.sub [1, 2] rfl) rfl rfl) rfl rfl hl.1 rfl (lv_room (Nat.le_of_ble_eq_true rfl)) dX3_noteChanges_23 ⟨Nat.zero_le _, Nat.zero_le _⟩) ?_
        refine gc_Si (va_runS (As := [.long (fb i), .long (fs i)]) (rest := []) ⟨hx, hb, hml, hown, hts⟩ (c_X3_countDifferent l D cy (fb i) (fs i)) (va_cwS 2 hts gX3_noteChanges_X3_countDifferent rfl rfl rfl (by decide +kernel) ⟨Nat.le_of_ble_eq_true rfl, Nat.le_of_ble_eq_true rfl⟩) (gpSR hG (hP.sub [] rfl)) rfl rfl hl.1 rfl (lv_room (Nat.le_of_ble_eq_true rfl)) dX3_noteChanges_26 ⟨Nat.zero_le _, Nat.zero_le _⟩) ?_
        refine lv_istore_n (lv' := [(3, .int (nI (nDif (fb i) (fs i)))), (0, .ref (a 0)), (1, .int (nI w)), (2, .int (nI i))]) hx hb dX3_noteChanges_29 rfl hl (by decide) rfl (fun ls hl => ?_)
        refine lv_iload_n hx hb dX3_noteChanges_30 rfl (lv_at hl 0 rfl) ?_
        refine lv_if_le (tgt := 39) hx hb dX3_noteChanges_31 (by decide) (fun c_31 => ?_) (fun c_31 => ?_)
        · skip
          have c_31 : (nDif (fb i) (fs i)) ≤ 0 := (nI_leI (a := (nDif (fb i) (fs i))) (b := 0) (by omega) (by omega)).mp c_31
          refine lv_iload_n hx hb dX3_noteChanges_39 rfl (lv_at hl 2 rfl) ?_
          refine lv_iload_n hx hb dX3_noteChanges_40 rfl (lv_at hl 0 rfl) ?_
          refine lv_iadd hx hb dX3_noteChanges_41 ?_
          refine g_ti (y := nI (w + (nDif (fb i) (fs i)))) (nI_add _ _) ?_
          refine lv_istore_n (lv' := [(1, .int (nI (w + (nDif (fb i) (fs i))))), (3, .int (nI (nDif (fb i) (fs i)))), (0, .ref (a 0)), (2, .int (nI i))]) hx hb dX3_noteChanges_42 rfl hl (by decide) rfl (fun ls hl => ?_)
          refine lv_iinc (v := nI (i + 1)) (lv' := [(2, .int (nI (i + 1))), (1, .int (nI (w + (nDif (fb i) (fs i))))), (3, .int (nI (nDif (fb i) (fs i)))), (0, .ref (a 0))]) hx hb dX3_noteChanges_43 hl (k := 3) rfl (nI_1 _) (by decide) rfl (fun ls hl => ?_)
          refine lv_goto (tgt := 4) hx hb dX3_noteChanges_46 (by decide) ?_
          exact ih_4 (i + 1) (w + (nDif (fb i) (fs i))) L1 K1 f1 h1 (by omega) (by omega) (by rw [hw]; rfl) (by first | exact stlF_t hL1 (by omega) | exact stlF_f hL1 (by omega)) (by first | exact stlF_t hK1 (by omega) | exact stlF_f hK1 (by omega)) (by first | exact hw_36.1 | exact hf1) (by first | exact hw_36.2 | exact hh1) _ _ _ (hP.sub [0, 1, 2, 3, 4, 5, 6, 7, 8, 9] rfl) (hD.sub [0, 1, 2, 3, 4, 5, 6, 7, 8, 9] (by decide) rfl) hS (lv_sub hl [3, 1, 0] rfl)
        · skip
          have c_31 : ¬ (nDif (fb i) (fs i)) ≤ 0 := fun z => c_31 ((nI_leI (a := (nDif (fb i) (fs i))) (b := 0) (by omega) (by omega)).mpr z)
          refine lv_aload_n hx hb dX3_noteChanges_34 rfl (lv_at hl 1 rfl) ?_
          refine lv_iload_n hx hb dX3_noteChanges_35 rfl (lv_at hl 3 rfl) ?_
          refine gc_Wv (wn := fun u => [(a 0, eTop (a 1) (a 3) (a 5) (a 6) uw), (a 1, eScr (a 2)), (a 2, eJ cy 12 fs), (a 3, eScr (a 4)), (a 4, eJ cy 12 fb), (a 5, eQ cy 2 g), (q 0, eCli (gb (J)) (q 1) (q 3) (q 5) (q 7) (nI u.1.length) (q 8) (q 9) k), (q 7, eI cy 12 u.2.2.1), (r 0, eCli (gb (J9)) (r 1) (r 3) (r 5) (r 7) (nI u.2.1.length) (r 8) (r 9) k9), (r 7, eI cy 12 u.2.2.2)]) (wr := [(a 1, eScr (a 2)), (a 2, eJ cy 12 fs), (a 3, eScr (a 4)), (a 4, eJ cy 12 fb)]) (va_runV (As := [.int (nI i)]) (rest := []) ⟨hx, hb, hml, hown, hts⟩ (c_X3_makeDirtyForAll l D cy H.size a q r uw g J J9 k k9 L1 K1 f1 h1 i hg0 hg1 hf1 o1 hh1 o2 (by omega)) (cwV 1 hts gX3_noteChanges_X3_makeDirtyForAll rfl rfl rfl (by decide +kernel) ⟨Nat.le_of_ble_eq_true rfl, Nat.le_of_ble_eq_true rfl⟩) (gpVI (ci := 3) (q0 := 0) hG (hP.sub [0, 5, 6, 7, 8, 9] rfl) (hD.sub [0, 5, 6, 7, 8, 9] (by decide) rfl) rfl rfl) rfl rfl hl.1 rfl (lv_room (Nat.le_of_ble_eq_true rfl)) dX3_noteChanges_36 ⟨Nat.zero_le _, Nat.zero_le _⟩) hP hD hS hA [0, 5, 6, 7, 8, 9] [1, 2, 3, 4] [4, 0, 1, 2, 3, 5, 6, 7, 8, 9] rfl rfl (by decide) (by decide) (fun _ => rfl) (by decide) (fun u9 H locs hw_36 hP hD hS => ?_)
          obtain ⟨L2_36, K2_36, f2a, h2a⟩ := u9
          have hP : va_P D vwCl [(a 0, eTop (a 1) (a 3) (a 5) (a 6) uw), (a 1, eScr (a 2)), (a 2, eJ cy 12 fs), (a 3, eScr (a 4)), (a 4, eJ cy 12 fb), (a 5, eQ cy 2 g), (q 0, eCli (gb (J)) (q 1) (q 3) (q 5) (q 7) (nI L2_36.length) (q 8) (q 9) k), (q 7, eI cy 12 f2a), (r 0, eCli (gb (J9)) (r 1) (r 3) (r 5) (r 7) (nI K2_36.length) (r 8) (r 9) k9), (r 7, eI cy 12 h2a)] H := hP
          have hD : va_D AA [(a 0, eTop (a 1) (a 3) (a 5) (a 6) uw), (a 1, eScr (a 2)), (a 2, eJ cy 12 fs), (a 3, eScr (a 4)), (a 4, eJ cy 12 fb), (a 5, eQ cy 2 g), (q 0, eCli (gb (J)) (q 1) (q 3) (q 5) (q 7) (nI L2_36.length) (q 8) (q 9) k), (q 7, eI cy 12 f2a), (r 0, eCli (gb (J9)) (r 1) (r 3) (r 5) (r 7) (nI K2_36.length) (r 8) (r 9) k9), (r 7, eI cy 12 h2a)] := hD
          obtain ⟨ef_36, hw_36⟩ := hw_36
          subst ef_36
          obtain ⟨ef_36, hw_36⟩ := hw_36
          subst ef_36
          have hP : va_P D vwCl [(a 0, eTop (a 1) (a 3) (a 5) (a 6) uw), (a 1, eScr (a 2)), (a 2, eJ cy 12 fs), (a 3, eScr (a 4)), (a 4, eJ cy 12 fb), (a 5, eQ cy 2 g), (q 0, eCli (gb (J)) (q 1) (q 3) (q 5) (q 7) (nI (soilJ J L1 i).length) (q 8) (q 9) k), (q 7, eI cy 12 f2a), (r 0, eCli (gb (J9)) (r 1) (r 3) (r 5) (r 7) (nI (soilJ J9 K1 i).length) (r 8) (r 9) k9), (r 7, eI cy 12 h2a)] H := hP
          have hD : va_D AA [(a 0, eTop (a 1) (a 3) (a 5) (a 6) uw), (a 1, eScr (a 2)), (a 2, eJ cy 12 fs), (a 3, eScr (a 4)), (a 4, eJ cy 12 fb), (a 5, eQ cy 2 g), (q 0, eCli (gb (J)) (q 1) (q 3) (q 5) (q 7) (nI (soilJ J L1 i).length) (q 8) (q 9) k), (q 7, eI cy 12 f2a), (r 0, eCli (gb (J9)) (r 1) (r 3) (r 5) (r 7) (nI (soilJ J9 K1 i).length) (r 8) (r 9) k9), (r 7, eI cy 12 h2a)] := hD
          have hw_36 : hN (soilJ J L1 i) f2a ∧ hN (soilJ J9 K1 i) h2a := hw_36
          refine lv_iload_n hx hb dX3_noteChanges_39 rfl (lv_at hl 2 rfl) ?_
          refine lv_iload_n hx hb dX3_noteChanges_40 rfl (lv_at hl 0 rfl) ?_
          refine lv_iadd hx hb dX3_noteChanges_41 ?_
          refine g_ti (y := nI (w + (nDif (fb i) (fs i)))) (nI_add _ _) ?_
          refine lv_istore_n (lv' := [(1, .int (nI (w + (nDif (fb i) (fs i))))), (3, .int (nI (nDif (fb i) (fs i)))), (0, .ref (a 0)), (2, .int (nI i))]) hx hb dX3_noteChanges_42 rfl hl (by decide) rfl (fun ls hl => ?_)
          refine lv_iinc (v := nI (i + 1)) (lv' := [(2, .int (nI (i + 1))), (1, .int (nI (w + (nDif (fb i) (fs i))))), (3, .int (nI (nDif (fb i) (fs i)))), (0, .ref (a 0))]) hx hb dX3_noteChanges_43 hl (k := 3) rfl (nI_1 _) (by decide) rfl (fun ls hl => ?_)
          refine lv_goto (tgt := 4) hx hb dX3_noteChanges_46 (by decide) ?_
          exact ih_4 (i + 1) (w + (nDif (fb i) (fs i))) ((soilJ J L1 i)) ((soilJ J9 K1 i)) f2a h2a (by omega) (by omega) (by rw [hw]; rfl) (by first | exact stlF_t hL1 (by omega) | exact stlF_f hL1 (by omega)) (by first | exact stlF_t hK1 (by omega) | exact stlF_f hK1 (by omega)) (by first | exact hw_36.1 | exact hf1) (by first | exact hw_36.2 | exact hh1) _ _ _ (hP.sub [0, 1, 2, 3, 4, 5, 6, 7, 8, 9] rfl) (hD.sub [0, 1, 2, 3, 4, 5, 6, 7, 8, 9] (by decide) rfl) hS (lv_sub hl [3, 1, 0] rfl)
  exact loop_4 ((12 - 0) + 1) 0 0 L K f h (Nat.lt_succ_self _) (by omega) rfl rfl rfl hL hK _ _ _ (hP.sub [0, 1, 2, 3, 4, 5, 6, 7, 8, 9] rfl) (hD.sub [0, 1, 2, 3, 4, 5, 6, 7, 8, 9] (by decide) rfl) hS (lv_sub hl [2, 1, 0] rfl)
end
section
/-! the class: a message is written -/
theorem iX3_writeMessage_X3 : ∀ w ∈ wsX30, w ∈ wsX3_writeMessage := by decide +kernel
set_option maxHeartbeats 4000000 in
set_option maxRecDepth 100000 in
theorem c_X3_writeMessage (l : Launch) (D : va_G) (cy : Nat → ClassId) (sz : Nat) (a q : Nat → Nat) (uw : Int32) (fs : Nat → Int64) (fw : Nat → Int32) (J : Prop) (L : List Nat) (fd : Nat → Int32) (C : List Int64) (fc : Nat → Int64) (ft : Nat → Int32) (fm : Nat → Int64) (b : Nat) (hL : hN L fd) (ho : okD L) (hC1 : hC C fc) (hC6 : C.length ≤ 6) (hb9 : b ≤ 300) : Met l yX3_writeMessage wsX3_writeMessage ({ frames := 4, cells := 0, slots := 0, locals := 94 } : Room) (va_Pc [.ref (a 0), .ref (q 0), .int (nI b)] (gI D (gT cy) [(a 0, eTop (a 1) (a 3) (a 5) (a 6) uw), (a 1, eScr (a 2)), (a 2, eJ cy 12 fs), (a 6, eI cy 5 fw), (q 0, eCli (gb (J)) (q 1) (q 3) (q 5) (q 7) (nI L.length) (q 8) (q 9) (nI 0)), (q 5, eCch (q 6) (nI C.length)), (q 6, eJ cy 6 fc), (q 7, eI cy 12 fd), (q 8, eI cy 12 ft), (q 9, eJ cy 12 fm)] sz)) (va_Qv (fun u : (List Nat) × (Nat → Int32) × (List (Nat × Int64)) × (Nat → Int32) × (Nat → Int64) × (List Int64) × (Nat → Int64) × Nat × (Nat → Int32) => (askF fs L [] C b fw = (u.1, u.2.2.1, u.2.2.2.2.2.1, u.2.2.2.2.2.2.2.1, u.2.2.2.2.2.2.2.2) ∧ hN u.1 u.2.1 ∧ hM u.2.2.1 u.2.2.2.1 u.2.2.2.2.1 ∧ okM u.2.2.1 ∧ u.2.2.1.length ≤ 12 ∧ hC u.2.2.2.2.2.1 u.2.2.2.2.2.2.1 ∧ u.2.2.2.2.2.1.length ≤ 6 ∧ u.2.2.2.2.2.2.2.1 ≤ b ∧ okD u.1)) (gO D (fun u : (List Nat) × (Nat → Int32) × (List (Nat × Int64)) × (Nat → Int32) × (Nat → Int64) × (List Int64) × (Nat → Int64) × Nat × (Nat → Int32) => [(a 0, eTop (a 1) (a 3) (a 5) (a 6) (uw + nI (b - u.2.2.2.2.2.2.2.1))), (a 1, eScr (a 2)), (a 2, eJ cy 12 fs), (a 6, eI cy 5 u.2.2.2.2.2.2.2.2), (q 0, eCli (gb (J)) (q 1) (q 3) (q 5) (q 7) (nI u.1.length) (q 8) (q 9) (nI u.2.2.1.length)), (q 5, eCch (q 6) (nI u.2.2.2.2.2.1.length)), (q 6, eJ cy 6 u.2.2.2.2.2.2.1), (q 7, eI cy 12 u.2.1), (q 8, eI cy 12 u.2.2.2.1), (q 9, eJ cy 12 u.2.2.2.2.1)]) (va_A [(a 0, eTop (a 1) (a 3) (a 5) (a 6) uw), (a 1, eScr (a 2)), (a 2, eJ cy 12 fs), (a 6, eI cy 5 fw), (q 0, eCli (gb (J)) (q 1) (q 3) (q 5) (q 7) (nI L.length) (q 8) (q 9) (nI 0)), (q 5, eCch (q 6) (nI C.length)), (q 6, eJ cy 6 fc), (q 7, eI cy 12 fd), (q 8, eI cy 12 ft), (q 9, eJ cy 12 fm)] sz)) (va_A [(a 0, eTop (a 1) (a 3) (a 5) (a 6) uw), (a 1, eScr (a 2)), (a 2, eJ cy 12 fs), (a 6, eI cy 5 fw), (q 0, eCli (gb (J)) (q 1) (q 3) (q 5) (q 7) (nI L.length) (q 8) (q 9) (nI 0)), (q 5, eCch (q 6) (nI C.length)), (q 6, eJ cy 6 fc), (q 7, eI cy 12 fd), (q 8, eI cy 12 ft), (q 9, eJ cy 12 fm)] sz)) 0 0 (va_A [(a 0, eTop (a 1) (a 3) (a 5) (a 6) uw), (a 1, eScr (a 2)), (a 2, eJ cy 12 fs), (a 6, eI cy 5 fw), (q 0, eCli (gb (J)) (q 1) (q 3) (q 5) (q 7) (nI L.length) (q 8) (q 9) (nI 0)), (q 5, eCch (q 6) (nI C.length)), (q 6, eJ cy 6 fc), (q 7, eI cy 12 fd), (q 8, eI cy 12 ft), (q 9, eJ cy 12 fm)] sz) := by
  refine gW_v (cc := cX3_writeMessage) (maxL := 11) (by decide) rfl (Nat.le_of_ble_eq_true rfl) ?_
  intro pp ee ss mm bw mt cd QQ AA ls hfx hP hG hD hA hret hl
  have hS : va_S AA ss.heap ss.heap [] := va_S.rf
  obtain ⟨H, eH⟩ : ∃ H, H = ss.heap := ⟨_, rfl⟩
  obtain ⟨locs, eL⟩ : ∃ L : List Loc, L = [] := ⟨_, rfl⟩
  have hP : va_P D vwCl [(a 0, eTop (a 1) (a 3) (a 5) (a 6) uw), (a 1, eScr (a 2)), (a 2, eJ cy 12 fs), (a 6, eI cy 5 fw), (q 0, eCli (gb (J)) (q 1) (q 3) (q 5) (q 7) (nI L.length) (q 8) (q 9) (nI 0)), (q 5, eCch (q 6) (nI C.length)), (q 6, eJ cy 6 fc), (q 7, eI cy 12 fd), (q 8, eI cy 12 ft), (q 9, eJ cy 12 fm)] H := by rw [eH]; exact hP
  have hS : va_S AA ss.heap H locs := by rw [eH, eL]; exact hS
  have goal : ∀ X Y, X = H → Y = locs → W pp l ee ({ frames := 4, cells := 0, slots := 0, locals := 94 } : Room) ss mm ([.ref (a 0), .ref (q 0), .int (nI b)] : List Value).toArray bw mt cd X Y 0 0 QQ (F0 mm 0 ls []) → W pp l ee ({ frames := 4, cells := 0, slots := 0, locals := 94 } : Room) ss mm ([.ref (a 0), .ref (q 0), .int (nI b)] : List Value).toArray bw mt cd ss.heap [] 0 0 QQ (F0 mm 0 ls []) := fun X Y hX hY h => by rw [hX, hY, eH, eL] at h; exact h
  refine goal H locs rfl rfl ?_
  clear goal eH eL
  obtain ⟨hx, hb, hml, hown, hts, hlocks⟩ := hfx
  have hown : ss.vm.findClass RX3 = some mm.cls := hown
  have hl : lv_has ls 11 [(0, .ref (a 0)), (1, .ref (q 0)), (2, .int (nI b))] := hl
  have z1 := okD_len ho
  refine lv_iload_n hx hb dX3_writeMessage_0 rfl (lv_at hl 2 rfl) ?_
  refine lv_istore_n (lv' := [(3, .int (nI b)), (0, .ref (a 0)), (1, .ref (q 0)), (2, .int (nI b))]) hx hb dX3_writeMessage_1 rfl hl (by decide) rfl (fun ls hl => ?_)
  refine lv_aload_n hx hb dX3_writeMessage_2 rfl (lv_at hl 2 rfl) ?_
  refine gc_Si (va_runV (As := []) (rest := []) ⟨hx, hb, hml, hown, hts⟩ (c_X1_dirtyCount l D cy q J (nI L.length) (nI 0)) (cwV 0 hts gX3_writeMessage_X1_dirtyCount rfl rfl rfl (by decide +kernel) ⟨Nat.le_of_ble_eq_true rfl, Nat.le_of_ble_eq_true rfl⟩) (gpVR (ci := 1) (q0 := 0) hG (hP.sub [4] rfl) rfl rfl) rfl rfl hl.1 rfl (lv_room (Nat.le_of_ble_eq_true rfl)) dX3_writeMessage_3 ⟨Nat.zero_le _, Nat.zero_le _⟩) ?_
  refine lv_istore (lv' := [(4, .int ((nI L.length))), (3, .int (nI b)), (0, .ref (a 0)), (1, .ref (q 0)), (2, .int (nI b))]) hx hb dX3_writeMessage_6 hl (by decide) rfl (fun ls hl => ?_)
  have join_97 : ∀ (left : Nat) (C1 : List Int64) (fc1 : Nat → Int64) (M1 : List (Nat × Int64)) (ft1 : Nat → Int32) (fm1 : Nat → Int64) (w1 : Nat → Int32), (askF fs L [] C b fw = (L.drop M1.length, M1, C1, left, w1)) → (M1.length ≤ L.length) → (left ≤ b) → (hC C1 fc1) → (C1.length ≤ 6) → (hM M1 ft1 fm1) → (okM M1) → ∀ (H : Heap) (locs : List Loc) (ls : Array Slot), va_P D vwCl [(a 0, eTop (a 1) (a 3) (a 5) (a 6) uw), (a 1, eScr (a 2)), (a 2, eJ cy 12 fs), (a 6, eI cy 5 w1), (q 0, eCli (gb (J)) (q 1) (q 3) (q 5) (q 7) (nI L.length) (q 8) (q 9) (nI M1.length)), (q 5, eCch (q 6) (nI C1.length)), (q 6, eJ cy 6 fc1), (q 7, eI cy 12 fd), (q 8, eI cy 12 ft1), (q 9, eJ cy 12 fm1)] H → va_D AA [(a 0, eTop (a 1) (a 3) (a 5) (a 6) uw), (a 1, eScr (a 2)), (a 2, eJ cy 12 fs), (a 6, eI cy 5 w1), (q 0, eCli (gb (J)) (q 1) (q 3) (q 5) (q 7) (nI L.length) (q 8) (q 9) (nI M1.length)), (q 5, eCch (q 6) (nI C1.length)), (q 6, eJ cy 6 fc1), (q 7, eI cy 12 fd), (q 8, eI cy 12 ft1), (q 9, eJ cy 12 fm1)] → va_S AA ss.heap H locs → lv_has ls 11 [(0, .ref (a 0)), (1, .ref (q 0)), (2, .int (nI b)), (3, .int (nI left))] → W pp l ee ({ frames := 4, cells := 0, slots := 0, locals := 94 } : Room) ss mm ([.ref (a 0), .ref (q 0), .int (nI b)] : List Value).toArray bw mt cd H locs 0 0 QQ (F0 mm 97 ls []) := by
    intro left C1 fc1 M1 ft1 fm1 w1 hR hMl hlb hC1 hC6 hM1 hoM H locs ls hP hD hS hl
    refine lv_aload_n hx hb dX3_writeMessage_97 rfl (lv_at hl 0 rfl) ?_
    refine lv_dup hx hb dX3_writeMessage_98 rfl ?_
    refine va_get (D := D) (ci := 3) (v := .int uw) (C := RX3) (T := TX3) (N := 5) hx hb hts iX3_writeMessage_X3 hown hG.1 hP 0 rfl rfl 4 (by decide) (hts (.fieldLink RX3 29 "DirtyTiles" "unitsWritten" "I") (by decide +kernel)) (fun _ h9 => h9) rfl dX3_writeMessage_99 ?_
    refine lv_iload_n hx hb dX3_writeMessage_102 rfl (lv_at hl 2 rfl) ?_
    refine lv_iload_n hx hb dX3_writeMessage_103 rfl (lv_at hl 3 rfl) ?_
    refine lv_isub hx hb dX3_writeMessage_104 ?_
    refine g_ti (y := nI (b - left)) (pk_sub (by omega)) ?_
    refine lv_iadd hx hb dX3_writeMessage_105 ?_
    refine va_put (D := D) (ci := 3) (v := .int (uw + (nI (b - left)))) (ty := .int) (C := RX3) (T := TX3) (N := 5) hx hb hts iX3_writeMessage_X3 tyX3 tyX3_ok nmX3 hown hG.1 hP hD hS 0 rfl rfl 4 (by decide) (hts (.fieldLink RX3 29 "DirtyTiles" "unitsWritten" "I") (by decide +kernel)) (fun _ h9 => h9) rfl (by decide +kernel) rfl rfl (Nat.le_of_ble_eq_true rfl) dX3_writeMessage_106 (fun H locs hP hD hS => ?_)
    have hP : va_P D vwCl [(a 0, eTop (a 1) (a 3) (a 5) (a 6) (uw + (nI (b - left)))), (a 1, eScr (a 2)), (a 2, eJ cy 12 fs), (a 6, eI cy 5 w1), (q 0, eCli (gb (J)) (q 1) (q 3) (q 5) (q 7) (nI L.length) (q 8) (q 9) (nI M1.length)), (q 5, eCch (q 6) (nI C1.length)), (q 6, eJ cy 6 fc1), (q 7, eI cy 12 fd), (q 8, eI cy 12 ft1), (q 9, eJ cy 12 fm1)] H := hP
    have hD : va_D AA [(a 0, eTop (a 1) (a 3) (a 5) (a 6) (uw + (nI (b - left)))), (a 1, eScr (a 2)), (a 2, eJ cy 12 fs), (a 6, eI cy 5 w1), (q 0, eCli (gb (J)) (q 1) (q 3) (q 5) (q 7) (nI L.length) (q 8) (q 9) (nI M1.length)), (q 5, eCch (q 6) (nI C1.length)), (q 6, eJ cy 6 fc1), (q 7, eI cy 12 fd), (q 8, eI cy 12 ft1), (q 9, eJ cy 12 fm1)] := hD
    refine lv_aload_n hx hb dX3_writeMessage_109 rfl (lv_at hl 1 rfl) ?_
    refine gc_Wv (wn := fun u => [(a 0, eTop (a 1) (a 3) (a 5) (a 6) (uw + (nI (b - left)))), (a 1, eScr (a 2)), (a 2, eJ cy 12 fs), (a 6, eI cy 5 w1), (q 0, eCli (gb (J)) (q 1) (q 3) (q 5) (q 7) (nI (L.length - M1.length)) (q 8) (q 9) (nI M1.length)), (q 5, eCch (q 6) (nI C1.length)), (q 6, eJ cy 6 fc1), (q 7, eI cy 12 u), (q 8, eI cy 12 ft1), (q 9, eJ cy 12 fm1)]) (wr := [(a 0, eTop (a 1) (a 3) (a 5) (a 6) (uw + (nI (b - left)))), (a 1, eScr (a 2)), (a 2, eJ cy 12 fs), (a 6, eI cy 5 w1), (q 5, eCch (q 6) (nI C1.length)), (q 6, eJ cy 6 fc1), (q 8, eI cy 12 ft1), (q 9, eJ cy 12 fm1)]) (va_runV (As := []) (rest := []) ⟨hx, hb, hml, hown, hts⟩ (c_X1_cleanTilesOfMessage l D cy H.size q J M1.length L.length fd hMl z1) (cwV 0 hts gX3_writeMessage_X1_cleanTilesOfMessage rfl rfl rfl (by decide +kernel) ⟨Nat.le_of_ble_eq_true rfl, Nat.le_of_ble_eq_true rfl⟩) (gpVI (ci := 1) (q0 := 0) hG (hP.sub [4, 7] rfl) (hD.sub [4, 7] (by decide) rfl) rfl rfl) rfl rfl hl.1 rfl (lv_room (Nat.le_of_ble_eq_true rfl)) dX3_writeMessage_110 ⟨Nat.zero_le _, Nat.zero_le _⟩) hP hD hS hA [4, 7] [0, 1, 2, 3, 5, 6, 8, 9] [0, 1, 2, 3, 8, 4, 5, 9, 6, 7] rfl rfl (by decide) (by decide) (fun _ => rfl) (by decide) (fun f2_110 H locs hw_110 hP hD hS => ?_)
    have hP : va_P D vwCl [(a 0, eTop (a 1) (a 3) (a 5) (a 6) (uw + (nI (b - left)))), (a 1, eScr (a 2)), (a 2, eJ cy 12 fs), (a 6, eI cy 5 w1), (q 0, eCli (gb (J)) (q 1) (q 3) (q 5) (q 7) (nI (L.length - M1.length)) (q 8) (q 9) (nI M1.length)), (q 5, eCch (q 6) (nI C1.length)), (q 6, eJ cy 6 fc1), (q 7, eI cy 12 f2_110), (q 8, eI cy 12 ft1), (q 9, eJ cy 12 fm1)] H := hP
    have hD : va_D AA [(a 0, eTop (a 1) (a 3) (a 5) (a 6) (uw + (nI (b - left)))), (a 1, eScr (a 2)), (a 2, eJ cy 12 fs), (a 6, eI cy 5 w1), (q 0, eCli (gb (J)) (q 1) (q 3) (q 5) (q 7) (nI (L.length - M1.length)) (q 8) (q 9) (nI M1.length)), (q 5, eCch (q 6) (nI C1.length)), (q 6, eJ cy 6 fc1), (q 7, eI cy 12 f2_110), (q 8, eI cy 12 ft1), (q 9, eJ cy 12 fm1)] := hD
    have hw_110 : ∀ j, j + M1.length < L.length → f2_110 j = fd (j + M1.length) := hw_110
    rw [← List.length_drop] at hP hD
    exact hret _ _ _ _ ⟨L.drop M1.length, f2_110, M1, ft1, fm1, C1, fc1, left, w1⟩ dX3_writeMessage_113 (⟨hR, (fun j hj => by rw [List.length_drop] at hj; show f2_110 j = _; rw [drop_getD, hw_110 j (by omega), hL _ (by omega)]), hM1, hoM, (show M1.length ≤ 12 by omega), hC1, hC6, hlb, okD_drop ho _⟩) (hP.sub [0, 1, 2, 3, 4, 5, 6, 7, 8, 9] rfl) (hD.sub [0, 1, 2, 3, 4, 5, 6, 7, 8, 9] (by decide) rfl) hS
  refine lv_iconst (v := nI 0) hx hb dX3_writeMessage_8 (by decide) ?_
  refine lv_istore (lv' := [(5, .int (nI 0)), (4, .int ((nI L.length))), (3, .int (nI b)), (0, .ref (a 0)), (1, .ref (q 0)), (2, .int (nI b))]) hx hb dX3_writeMessage_9 hl (by decide) rfl (fun ls hl => ?_)
  have loop_11 : ∀ (n9 : Nat) (i : Nat) (left : Nat) (C1 : List Int64) (fc1 : Nat → Int64) (M1 : List (Nat × Int64)) (ft1 : Nat → Int32) (fm1 : Nat → Int64) (w1 : Nat → Int32), L.length - i < n9 → (askF fs (L.drop i) M1 C1 left w1 = askF fs L [] C b fw) → (M1.length = i) → (i ≤ L.length) → (left ≤ b) → (hC C1 fc1) → (C1.length ≤ 6) → (hM M1 ft1 fm1) → (okM M1) → ∀ (H : Heap) (locs : List Loc) (ls : Array Slot), va_P D vwCl [(a 0, eTop (a 1) (a 3) (a 5) (a 6) uw), (a 1, eScr (a 2)), (a 2, eJ cy 12 fs), (a 6, eI cy 5 w1), (q 0, eCli (gb (J)) (q 1) (q 3) (q 5) (q 7) (nI L.length) (q 8) (q 9) (nI M1.length)), (q 5, eCch (q 6) (nI C1.length)), (q 6, eJ cy 6 fc1), (q 7, eI cy 12 fd), (q 8, eI cy 12 ft1), (q 9, eJ cy 12 fm1)] H → va_D AA [(a 0, eTop (a 1) (a 3) (a 5) (a 6) uw), (a 1, eScr (a 2)), (a 2, eJ cy 12 fs), (a 6, eI cy 5 w1), (q 0, eCli (gb (J)) (q 1) (q 3) (q 5) (q 7) (nI L.length) (q 8) (q 9) (nI M1.length)), (q 5, eCch (q 6) (nI C1.length)), (q 6, eJ cy 6 fc1), (q 7, eI cy 12 fd), (q 8, eI cy 12 ft1), (q 9, eJ cy 12 fm1)] → va_S AA ss.heap H locs → lv_has ls 11 [(0, .ref (a 0)), (1, .ref (q 0)), (2, .int (nI b)), (3, .int (nI left)), (4, .int (nI L.length)), (5, .int (nI i))] → W pp l ee ({ frames := 4, cells := 0, slots := 0, locals := 94 } : Room) ss mm ([.ref (a 0), .ref (q 0), .int (nI b)] : List Value).toArray bw mt cd H locs 0 0 QQ (F0 mm 11 ls []) := by
    intro n9
    induction n9 with
    | zero => intro i left C1 fc1 M1 ft1 fm1 w1 h9; exact absurd h9 (Nat.not_lt_zero _)
    | succ n9 ih_11 =>
      intro i left C1 fc1 M1 ft1 fm1 w1 hm_11 hR9 hMi hi hlb hC1 hC6 hM1 hoM H locs ls hP hD hS hl
      refine lv_iload hx hb dX3_writeMessage_11 (lv_at hl 5 rfl) ?_
      refine lv_iload hx hb dX3_writeMessage_13 (lv_at hl 4 rfl) ?_
      refine lv_icmp_ge (tgt := 97) hx hb dX3_writeMessage_15 (by decide) (fun c_15 => ?_) (fun c_15 => ?_)
      · skip
        have c_15 : L.length ≤ i := (nI_leI (a := L.length) (b := i) (by omega) (by omega)).mp c_15
        exact join_97 left C1 fc1 M1 ft1 fm1 w1 (by rw [hMi, ← hR9]; first | exact askF_e (by omega) | exact askF_f (by omega) (by omega)) (by omega) (by omega) hC1 (by omega) hM1 hoM _ _ _ (hP.sub [0, 1, 2, 3, 4, 5, 6, 7, 8, 9] rfl) (hD.sub [0, 1, 2, 3, 4, 5, 6, 7, 8, 9] (by decide) rfl) hS (lv_sub hl [0, 1, 2, 3] rfl)
      · skip
        have c_15 : ¬ L.length ≤ i := fun z => c_15 ((nI_leI (a := L.length) (b := i) (by omega) (by omega)).mpr z)
        refine lv_aload_n hx hb dX3_writeMessage_18 rfl (lv_at hl 1 rfl) ?_
        refine lv_iload hx hb dX3_writeMessage_19 (lv_at hl 5 rfl) ?_
        refine gc_Si (va_runV (As := [.int (nI i)]) (rest := []) ⟨hx, hb, hml, hown, hts⟩ (c_X1_dirtyTileAt l D cy q J (nI L.length) (nI M1.length) fd i (by omega)) (cwV 1 hts gX3_writeMessage_X1_dirtyTileAt rfl rfl rfl (by decide +kernel) ⟨Nat.le_of_ble_eq_true rfl, Nat.le_of_ble_eq_true rfl⟩) (gpVR (ci := 1) (q0 := 0) hG (hP.sub [4, 7] rfl) rfl rfl) rfl rfl hl.1 rfl (lv_room (Nat.le_of_ble_eq_true rfl)) dX3_writeMessage_21 ⟨Nat.zero_le _, Nat.zero_le _⟩) ?_
        refine g_ti (y := nI (L.getD i 0)) (hL i (by omega)) ?_
        refine lv_istore (lv' := [(6, .int (nI (L.getD i 0))), (0, .ref (a 0)), (1, .ref (q 0)), (2, .int (nI b)), (3, .int (nI left)), (4, .int (nI L.length)), (5, .int (nI i))]) hx hb dX3_writeMessage_24 hl (by decide) rfl (fun ls hl => ?_)
        refine lv_aload_n hx hb dX3_writeMessage_26 rfl (lv_at hl 1 rfl) ?_
        refine va_get (D := D) (ci := 3) (v := .ref (a 1)) (C := RX3) (T := TX3) (N := 5) hx hb hts iX3_writeMessage_X3 hown hG.1 hP 0 rfl rfl 0 (by decide) (hts (.fieldLink RX3 10 "DirtyTiles" "screen" "LDirtyTiles$Screen;") (by decide +kernel)) (fun _ h9 => h9) rfl dX3_writeMessage_27 ?_
        refine lv_iload hx hb dX3_writeMessage_30 (lv_at hl 0 rfl) ?_
        refine gc_Sl (va_runV (As := [.int (nI (L.getD i 0))]) (rest := []) ⟨hx, hb, hml, hown, hts⟩ (c_X2_cellsOf l D cy (a 1) (a 2) fs (L.getD i 0) (okD_get ho (by omega))) (cwV 1 hts gX3_writeMessage_X2_cellsOf rfl rfl rfl (by decide +kernel) ⟨Nat.le_of_ble_eq_true rfl, Nat.le_of_ble_eq_true rfl⟩) (gpVR (ci := 2) (q0 := 0) hG (hP.sub [1, 2] rfl) rfl rfl) rfl rfl hl.1 rfl (lv_room (Nat.le_of_ble_eq_true rfl)) dX3_writeMessage_32 ⟨Nat.zero_le _, Nat.zero_le _⟩) ?_
        refine lv_lstore (lv' := [(7, .long (fs (L.getD i 0))), (6, .int (nI (L.getD i 0))), (0, .ref (a 0)), (1, .ref (q 0)), (2, .int (nI b)), (3, .int (nI left)), (4, .int (nI L.length)), (5, .int (nI i))]) hx hb dX3_writeMessage_35 hl (by decide) rfl (fun ls hl => ?_)
        refine lv_lload hx hb dX3_writeMessage_37 (lv_at hl 0 rfl) ?_
        refine lv_aload_n hx hb dX3_writeMessage_39 rfl (lv_at hl 3 rfl) ?_
        refine gc_Sa (va_runV (As := []) (rest := [.long (fs (L.getD i 0))]) ⟨hx, hb, hml, hown, hts⟩ (c_X1_serverCache l D cy q J (nI L.length) (nI M1.length)) (cwV 0 hts gX3_writeMessage_X1_serverCache rfl rfl rfl (by decide +kernel) ⟨Nat.le_of_ble_eq_true rfl, Nat.le_of_ble_eq_true rfl⟩) (gpVR (ci := 1) (q0 := 0) hG (hP.sub [4] rfl) rfl rfl) rfl rfl hl.1 rfl (lv_room (Nat.le_of_ble_eq_true rfl)) dX3_writeMessage_40 ⟨Nat.zero_le _, Nat.zero_le _⟩) ?_
        refine gc_Si (va_runS (As := [.long (fs (L.getD i 0)), .ref (q 5)]) (rest := []) ⟨hx, hb, hml, hown, hts⟩ (c_X3_cheapestWriting l D cy (fs (L.getD i 0)) (q 5) (q 6) C1 fc1 hC1 hC6) (va_cwS 2 hts gX3_writeMessage_X3_cheapestWriting rfl rfl rfl (by decide +kernel) ⟨Nat.le_of_ble_eq_true rfl, Nat.le_of_ble_eq_true rfl⟩) (gpSR hG (hP.sub [5, 6] rfl)) rfl rfl hl.1 rfl (lv_room (Nat.le_of_ble_eq_true rfl)) dX3_writeMessage_43 ⟨Nat.zero_le _, Nat.zero_le _⟩) ?_
        have z2 := wayO_le C1 (fs (L.getD i 0))
        refine lv_istore (lv' := [(9, .int (nI (wayO C1 (fs (L.getD i 0))))), (7, .long (fs (L.getD i 0))), (6, .int (nI (L.getD i 0))), (0, .ref (a 0)), (1, .ref (q 0)), (2, .int (nI b)), (3, .int (nI left)), (4, .int (nI L.length)), (5, .int (nI i))]) hx hb dX3_writeMessage_46 hl (by decide) rfl (fun ls hl => ?_)
        refine lv_iload hx hb dX3_writeMessage_48 (lv_at hl 0 rfl) ?_
        refine lv_bipush (v := nI 100) hx hb dX3_writeMessage_50 (by decide) ?_
        refine lv_irem hx hb dX3_writeMessage_52 (nI_ne0 (by omega) (by omega)) ?_
        refine g_ti (y := nI ((wayO C1 (fs (L.getD i 0))) % 100)) (pk_rem (by omega) (by omega) (by omega)) ?_
        refine lv_istore (lv' := [(10, .int (nI ((wayO C1 (fs (L.getD i 0))) % 100))), (9, .int (nI (wayO C1 (fs (L.getD i 0))))), (7, .long (fs (L.getD i 0))), (6, .int (nI (L.getD i 0))), (0, .ref (a 0)), (1, .ref (q 0)), (2, .int (nI b)), (3, .int (nI left)), (4, .int (nI L.length)), (5, .int (nI i))]) hx hb dX3_writeMessage_53 hl (by decide) rfl (fun ls hl => ?_)
        refine lv_iload hx hb dX3_writeMessage_55 (lv_at hl 0 rfl) ?_
        refine lv_iload_n hx hb dX3_writeMessage_57 rfl (lv_at hl 7 rfl) ?_
        refine lv_icmp_le (tgt := 64) hx hb dX3_writeMessage_58 (by decide) (fun c_58 => ?_) (fun c_58 => ?_)
        · skip
          have c_58 : ((wayO C1 (fs (L.getD i 0))) % 100) ≤ left := (nI_leI (a := ((wayO C1 (fs (L.getD i 0))) % 100)) (b := left) (by omega) (by omega)).mp c_58
          refine lv_iload_n hx hb dX3_writeMessage_64 rfl (lv_at hl 7 rfl) ?_
          refine lv_iload hx hb dX3_writeMessage_65 (lv_at hl 0 rfl) ?_
          refine lv_isub hx hb dX3_writeMessage_67 ?_
          refine g_ti (y := nI (left - ((wayO C1 (fs (L.getD i 0))) % 100))) (pk_sub (by omega)) ?_
          refine lv_istore_n (lv' := [(3, .int (nI (left - ((wayO C1 (fs (L.getD i 0))) % 100)))), (10, .int (nI ((wayO C1 (fs (L.getD i 0))) % 100))), (9, .int (nI (wayO C1 (fs (L.getD i 0))))), (7, .long (fs (L.getD i 0))), (6, .int (nI (L.getD i 0))), (0, .ref (a 0)), (1, .ref (q 0)), (2, .int (nI b)), (4, .int (nI L.length)), (5, .int (nI i))]) hx hb dX3_writeMessage_68 rfl hl (by decide) rfl (fun ls hl => ?_)
          refine lv_aload_n hx hb dX3_writeMessage_69 rfl (lv_at hl 6 rfl) ?_
          refine lv_iload hx hb dX3_writeMessage_70 (lv_at hl 4 rfl) ?_
          refine lv_lload hx hb dX3_writeMessage_72 (lv_at hl 3 rfl) ?_
          refine gc_Wv (wn := fun u => [(a 0, eTop (a 1) (a 3) (a 5) (a 6) uw), (a 1, eScr (a 2)), (a 2, eJ cy 12 fs), (a 6, eI cy 5 w1), (q 0, eCli (gb (J)) (q 1) (q 3) (q 5) (q 7) (nI L.length) (q 8) (q 9) (nI (M1.length + 1))), (q 5, eCch (q 6) (nI (brg C1 (fs (L.getD i 0))).length)), (q 6, eJ cy 6 u.1), (q 7, eI cy 12 fd), (q 8, eI cy 12 u.2.1), (q 9, eJ cy 12 u.2.2)]) (wr := [(a 0, eTop (a 1) (a 3) (a 5) (a 6) uw), (a 1, eScr (a 2)), (a 2, eJ cy 12 fs), (a 6, eI cy 5 w1), (q 7, eI cy 12 fd)]) (va_runV (As := [.int (nI (L.getD i 0)), .long (fs (L.getD i 0))]) (rest := []) ⟨hx, hb, hml, hown, hts⟩ (c_X1_addToMessage l D cy H.size q J (nI L.length) M1 ft1 fm1 C1 fc1 (L.getD i 0) (fs (L.getD i 0)) hM1 (by omega) hC1 hC6) (cwV 2 hts gX3_writeMessage_X1_addToMessage rfl rfl rfl (by decide +kernel) ⟨Nat.le_of_ble_eq_true rfl, Nat.le_of_ble_eq_true rfl⟩) (gpVI (ci := 1) (q0 := 0) hG (hP.sub [4, 5, 6, 8, 9] rfl) (hD.sub [4, 5, 6, 8, 9] (by decide) rfl) rfl rfl) rfl rfl hl.1 rfl (lv_room (Nat.le_of_ble_eq_true rfl)) dX3_writeMessage_74 ⟨Nat.zero_le _, Nat.zero_le _⟩) hP hD hS hA [4, 5, 6, 8, 9] [0, 1, 2, 3, 7] [0, 1, 2, 3, 5, 6, 7, 4, 8, 9] rfl rfl (by decide) (by decide) (fun _ => rfl) (by decide) (fun u9 H locs hw_74 hP hD hS => ?_)
          obtain ⟨f2_74, ft2_74, fm2_74⟩ := u9
          have hP : va_P D vwCl [(a 0, eTop (a 1) (a 3) (a 5) (a 6) uw), (a 1, eScr (a 2)), (a 2, eJ cy 12 fs), (a 6, eI cy 5 w1), (q 0, eCli (gb (J)) (q 1) (q 3) (q 5) (q 7) (nI L.length) (q 8) (q 9) (nI (M1.length + 1))), (q 5, eCch (q 6) (nI (brg C1 (fs (L.getD i 0))).length)), (q 6, eJ cy 6 f2_74), (q 7, eI cy 12 fd), (q 8, eI cy 12 ft2_74), (q 9, eJ cy 12 fm2_74)] H := hP
          have hD : va_D AA [(a 0, eTop (a 1) (a 3) (a 5) (a 6) uw), (a 1, eScr (a 2)), (a 2, eJ cy 12 fs), (a 6, eI cy 5 w1), (q 0, eCli (gb (J)) (q 1) (q 3) (q 5) (q 7) (nI L.length) (q 8) (q 9) (nI (M1.length + 1))), (q 5, eCch (q 6) (nI (brg C1 (fs (L.getD i 0))).length)), (q 6, eJ cy 6 f2_74), (q 7, eI cy 12 fd), (q 8, eI cy 12 ft2_74), (q 9, eJ cy 12 fm2_74)] := hD
          have hw_74 : hC (brg C1 (fs (L.getD i 0))) f2_74 ∧ hM (M1 ++ [((L.getD i 0), (fs (L.getD i 0)))]) ft2_74 fm2_74 := hw_74
          refine lv_aload_n hx hb dX3_writeMessage_77 rfl (lv_at hl 5 rfl) ?_
          refine va_get (D := D) (ci := 3) (v := .ref (a 6)) (C := RX3) (T := TX3) (N := 5) hx hb hts iX3_writeMessage_X3 hown hG.1 hP 0 rfl rfl 3 (by decide) (hts (.fieldLink RX3 25 "DirtyTiles" "tilesWritten" "[I") (by decide +kernel)) (fun _ h9 => h9) rfl dX3_writeMessage_78 ?_
          refine lv_iload hx hb dX3_writeMessage_81 (lv_at hl 2 rfl) ?_
          refine lv_bipush (v := nI 100) hx hb dX3_writeMessage_83 (by decide) ?_
          refine lv_idiv hx hb dX3_writeMessage_85 (nI_ne0 (by omega) (by omega)) ?_
          refine g_ti (y := nI ((wayO C1 (fs (L.getD i 0))) / 100)) (pk_div (by omega) (by omega) (by omega)) ?_
          refine lv_dup2_11 hx hb dX3_writeMessage_86 rfl rfl ?_
          refine g_iald hx hb hG hP 3 0 rfl rfl (k := (wayO C1 (fs (L.getD i 0))) / 100) (by omega) (by decide) dX3_writeMessage_87 ?_
          refine lv_iconst (v := nI 1) hx hb dX3_writeMessage_88 (by decide) ?_
          refine lv_iadd hx hb dX3_writeMessage_89 ?_
          refine g_iast hx hb hG hP hD hS 3 0 rfl rfl (k := (wayO C1 (fs (L.getD i 0))) / 100) (by omega) (by decide) dX3_writeMessage_90 (fun H locs hP hD hS => ?_)
          have hP : va_P D vwCl [(a 0, eTop (a 1) (a 3) (a 5) (a 6) uw), (a 1, eScr (a 2)), (a 2, eJ cy 12 fs), (a 6, eI cy 5 (upd w1 ((wayO C1 (fs (L.getD i 0))) / 100) ((w1 ((wayO C1 (fs (L.getD i 0))) / 100)) + (nI 1)))), (q 0, eCli (gb (J)) (q 1) (q 3) (q 5) (q 7) (nI L.length) (q 8) (q 9) (nI (M1.length + 1))), (q 5, eCch (q 6) (nI (brg C1 (fs (L.getD i 0))).length)), (q 6, eJ cy 6 f2_74), (q 7, eI cy 12 fd), (q 8, eI cy 12 ft2_74), (q 9, eJ cy 12 fm2_74)] H := hP
          have hD : va_D AA [(a 0, eTop (a 1) (a 3) (a 5) (a 6) uw), (a 1, eScr (a 2)), (a 2, eJ cy 12 fs), (a 6, eI cy 5 (upd w1 ((wayO C1 (fs (L.getD i 0))) / 100) ((w1 ((wayO C1 (fs (L.getD i 0))) / 100)) + (nI 1)))), (q 0, eCli (gb (J)) (q 1) (q 3) (q 5) (q 7) (nI L.length) (q 8) (q 9) (nI (M1.length + 1))), (q 5, eCch (q 6) (nI (brg C1 (fs (L.getD i 0))).length)), (q 6, eJ cy 6 f2_74), (q 7, eI cy 12 fd), (q 8, eI cy 12 ft2_74), (q 9, eJ cy 12 fm2_74)] := hD
          refine lv_iinc (v := nI (i + 1)) (lv' := [(5, .int (nI (i + 1))), (3, .int (nI (left - ((wayO C1 (fs (L.getD i 0))) % 100)))), (10, .int (nI ((wayO C1 (fs (L.getD i 0))) % 100))), (9, .int (nI (wayO C1 (fs (L.getD i 0))))), (7, .long (fs (L.getD i 0))), (6, .int (nI (L.getD i 0))), (0, .ref (a 0)), (1, .ref (q 0)), (2, .int (nI b)), (4, .int (nI L.length))]) hx hb dX3_writeMessage_91 hl (k := 9) rfl (nI_1 _) (by decide) rfl (fun ls hl => ?_)
          refine lv_goto (tgt := 11) hx hb dX3_writeMessage_94 (by decide) ?_
          have e8 : (M1 ++ [(L.getD i 0, fs (L.getD i 0))]).length = M1.length + 1 := by rw [List.length_append]; rfl
          rw [← e8] at hP hD
          exact ih_11 (i + 1) (left - ((wayO C1 (fs (L.getD i 0))) % 100)) (brg C1 (fs (L.getD i 0))) f2_74 (M1 ++ [(L.getD i 0, fs (L.getD i 0))]) ft2_74 fm2_74 (upd w1 ((wayO C1 (fs (L.getD i 0))) / 100) ((w1 ((wayO C1 (fs (L.getD i 0))) / 100)) + (nI 1))) (by omega) (by rw [← hR9]; exact (askF_t (by omega) c_58).symm) (by rw [e8, hMi]) (by omega) (by omega) hw_74.1 (brg_le _ _) hw_74.2 (okM_app hoM (okD_get ho (by omega))) _ _ _ (hP.sub [0, 1, 2, 3, 4, 5, 6, 7, 8, 9] rfl) (hD.sub [0, 1, 2, 3, 4, 5, 6, 7, 8, 9] (by decide) rfl) hS (lv_sub hl [6, 7, 8, 1, 9, 0] rfl)
        · skip
          have c_58 : ¬ ((wayO C1 (fs (L.getD i 0))) % 100) ≤ left := fun z => c_58 ((nI_leI (a := ((wayO C1 (fs (L.getD i 0))) % 100)) (b := left) (by omega) (by omega)).mpr z)
          refine lv_goto (tgt := 97) hx hb dX3_writeMessage_61 (by decide) ?_
          exact join_97 left C1 fc1 M1 ft1 fm1 w1 (by rw [hMi, ← hR9]; first | exact askF_e (by omega) | exact askF_f (by omega) (by omega)) (by omega) (by omega) hC1 (by omega) hM1 hoM _ _ _ (hP.sub [0, 1, 2, 3, 4, 5, 6, 7, 8, 9] rfl) (hD.sub [0, 1, 2, 3, 4, 5, 6, 7, 8, 9] (by decide) rfl) hS (lv_sub hl [4, 5, 6, 7] rfl)
  exact loop_11 ((L.length - 0) + 1) 0 b C fc ([]) ft fm fw (Nat.lt_succ_self _) (by rw [List.drop_zero]) rfl (by omega) (by omega) hC1 (by omega) (fun i hi => absurd hi (Nat.not_lt_zero i)) (fun i hi => absurd hi (Nat.not_lt_zero i)) _ _ _ (hP.sub [0, 1, 2, 3, 4, 5, 6, 7, 8, 9] rfl) (hD.sub [0, 1, 2, 3, 4, 5, 6, 7, 8, 9] (by decide) rfl) hS (lv_sub hl [3, 4, 5, 2, 1, 0] rfl)
end
section
/-! calls that throw: what they stand on, their contracts' form, how they leave and are caught -/
abbrev xIA : String := "java/lang/IllegalArgumentException"
abbrev xIS : String := "java/lang/IllegalStateException"
abbrev xIO : String := "java/lang/IndexOutOfBoundsException"
abbrev xNm : List String := ["java/lang/RuntimeException", "java/lang/Exception"]
def gE (sa : Nat → Nat) (A : Nat → Prop) (U : State) (H : Heap) : Prop := vx_Zq Bundle.tN "UNASSIGNED_STACK" Bundle.steD A U H ∧ vx_Zq Bundle.tN "SUPPRESSED_SENTINEL" Bundle.listD A U H ∧ vk_R RX3 147 "a parameter is out of range" (sa 0) U ∧ vk_R RX3 152 "the client is not in the state for this" (sa 1) U ∧ vk_R RX3 124 "no such dirty tile" (sa 2) U ∧ va_Nw (.castable xIA xIA) U ∧ va_Nw (.castable xIS xIS) U ∧ va_Nw (.castable xIO xIO) U ∧ va_Nw (.declares (Bundle.initS "java/lang/RuntimeException")) U ∧ va_Nw (.declares (Bundle.initS "java/lang/Exception")) U ∧ va_Nw (.declares (Bundle.initS Bundle.tN)) U
theorem gE.warm {sa : Nat → Nat} {A : Nat → Prop} {s U : State} {H : Heap} (h : gE sa A s H) (hW : s.WarmedH U.vm) : gE sa A U H :=
  ⟨vx_Zq.moved hW.alike h.1, vx_Zq.moved hW.alike h.2.1, vk_R.warm hW h.2.2.1, vk_R.warm hW h.2.2.2.1, vk_R.warm hW h.2.2.2.2.1, va_Nw.warmC hW h.2.2.2.2.2.1, va_Nw.warmC hW h.2.2.2.2.2.2.1, va_Nw.warmC hW h.2.2.2.2.2.2.2.1, va_Nw.warmD hW h.2.2.2.2.2.2.2.2.1, va_Nw.warmD hW h.2.2.2.2.2.2.2.2.2.1, va_Nw.warmD hW h.2.2.2.2.2.2.2.2.2.2⟩
theorem gE.vm {sa : Nat → Nat} {A : Nat → Prop} {s U : State} {H : Heap} (h : gE sa A s H) (hW : s.vm = U.vm) : gE sa A U H :=
  ⟨vx_Zq.moved (by rw [← hW]; exact Vm.Alike.refl s.vm) h.1, vx_Zq.moved (by rw [← hW]; exact Vm.Alike.refl s.vm) h.2.1, vk_R.same hW.symm h.2.2.1, vk_R.same hW.symm h.2.2.2.1, vk_R.same hW.symm h.2.2.2.2.1, va_Nw.same rfl hW h.2.2.2.2.2.1, va_Nw.same rfl hW h.2.2.2.2.2.2.1, va_Nw.same rfl hW h.2.2.2.2.2.2.2.1, va_Nw.same rfl hW h.2.2.2.2.2.2.2.2.1, va_Nw.same rfl hW h.2.2.2.2.2.2.2.2.2.1, va_Nw.same rfl hW h.2.2.2.2.2.2.2.2.2.2⟩
theorem gE.kept {sa : Nat → Nat} {A : Nat → Prop} {s : State} {H H1 : Heap} (h : gE sa A s H) (hq : ∀ a : Nat, a < H.size → ¬ A a → H1[a]? = H[a]?) : gE sa A s H1 :=
  ⟨h.1.kept hq, h.2.1.kept hq, h.2.2⟩
theorem gE.narrow {sa : Nat → Nat} {A B : Nat → Prop} {s : State} {H : Heap} (h : gE sa A s H) (hq : ∀ a : Nat, B a → A a) : gE sa B s H :=
  ⟨h.1.narrow hq, h.2.1.narrow hq, h.2.2⟩
/-- the start of a call that throws -/
def gX (D : va_G) (tys : List (ClassId × FieldType)) (sa : Nat → Nat) (wd : va_W) (sz : Nat) : State → Prop := fun U => U.heap.size = sz ∧ va_P D vwCl wd U.heap ∧ gG D tys U ∧ gE sa (fun q => sz ≤ q) U U.heap
theorem gX_blind {av : List Value} {D : va_G} {tys : List (ClassId × FieldType)} {sa : Nat → Nat} {wd : va_W} {sz : Nat} : FrameBlind (va_Pc av (gX D tys sa wd sz)) := fun a U g mk q => ⟨q.1, q.2.1, q.2.2.1, gG.vm (U := U.calling g mk a) q.2.2.2.1 rfl, gE.vm (U := U.calling g mk a) q.2.2.2.2 rfl⟩
/-- the end of a call that throws E: nothing that was there has changed -/
def gXC (E : String) (sz : Nat) : String → State → State → Prop := fun E' st t => E' = E ∧ va_F (fun q => sz ≤ q) st t
abbrev gNo : Array Value → State → Outcome → State → Prop := fun _ _ _ _ => False
section GX
variable {l : Launch} {y : MethodName} {ws ws' : List Cond} {rm : Room} {cc : ByteArray} {maxL : Nat} {ret : Option FieldType} {av : List Value} {D : va_G} {tys : List (ClassId × FieldType)} {wd : va_W} {sa : Nat → Nat} {E : String} {sz : Nat}
theorem gx_out {p : Program} {e : Env} {R : Room} {s : State} {m : MethodId} {below : List Frame} {meth : Method} {c : Code} {args : Array Value} {pc : Nat} {ls : Array Slot} {rest st0 : List Value} {Qa : State → Outcome → State → Prop} (hQ : ∀ a b c, ¬ Qa a b c)
    (hr : vx_Run p l e R s m args below meth c s.heap [] 0 0 1 6 (F0 m pc ls st0) rest Qa (gXC E s.heap.size) (fun q => s.heap.size ≤ q))
    (ht : ∀ x ∈ c.exceptionTable.toList, False) (hlocks : meth.locks = false) :
    W p l e R s m args below meth c s.heap [] 0 0 (vx_MQ below gNo (gXC E s.heap.size) args s 1 6 (fun q => s.heap.size ≤ q)) (F0 m pc ls st0) := by
  intro T hT X
  rcases hr T hT X with ⟨v, st₀, t, T', L, h0, X', hL, e1, e2, hq, st⟩ | ⟨q, st₀, t, T', L, E', ce, h0, X', hL, e1, e2, ⟨hE, hF⟩, hce, hcv, hcl, st⟩
  · exact absurd hq (hQ _ _ _)
  · obtain ⟨hz, hk⟩ := hF
    rw [h0] at hz hk
    obtain ⟨t2, a1, b1⟩ := vx_out (pc := pc) (ls := ls) (rest := rest) (E := E') (ce := ce) (q := q) (H := T'.heap) (locs := [] ++ L) (XC := gXC E s.heap.size) (Qc := gNo) (mc := 1) (ms := 6) (free := fun q => s.heap.size ≤ q) (fun x hx => (ht x hx).elim) hlocks (by rw [e1]; exact hce) hcv hcl
      (fun t9 ht9 _ => ⟨hE, by rw [ht9, e1]; exact hz, fun q h1 h2 => by rw [ht9, e1]; exact hk q h1 h2⟩) (fun z hz9 => hL z (by rw [List.nil_append] at hz9; exact hz9)) (Nat.le_refl _) (Nat.le_refl _) T' rfl X'
    exact ⟨t2, st.trans a1, b1⟩
theorem gM_x (hy : plainName y.cls = true) (hw : ws = Cond.code y cc maxL ret :: ws') (hlen : (lg_sl av).length ≤ maxL)
    (body : ∀ (p : Program) (e : Env) (s : State) (m : MethodId) (below : List Frame) (meth : Method) (c : Code) (Q : State → Prop) (ls : Array Slot), gFx y.cls cc maxL ws p s m av.toArray meth c → va_P D vwCl wd s.heap → gG D tys s → gE sa (fun q => s.heap.size ≤ q) s s.heap → (∀ x ∈ c.exceptionTable.toList, False) →
      Q = vx_MQ below gNo (gXC E s.heap.size) av.toArray s 1 6 (fun q => s.heap.size ≤ q) →
      (∀ (pc : Nat) (ls : Array Slot) (rest st0 : List Value) (Qa : State → Outcome → State → Prop), (∀ a b c, ¬ Qa a b c) → vx_Run p l e rm s m av.toArray below meth c s.heap [] 0 0 1 6 (F0 m pc ls st0) rest Qa (gXC E s.heap.size) (fun q => s.heap.size ≤ q) → W p l e rm s m av.toArray below meth c s.heap [] 0 0 Q (F0 m pc ls st0)) →
      lv_has ls maxL (lv_args 0 av) → W p l e rm s m av.toArray below meth c s.heap [] 0 0 Q (F0 m 0 ls [])) : vx_Met l y ws rm (va_Pc av (gX D tys sa wd sz)) gNo (gXC E sz) 1 6 (fun q => sz ≤ q) := by
  refine vx_ofW (cc := cc) (maxL := maxL) (ret := ret) hy hw ?_
  intro p e s m args below meth c s₁ B hml ht hv
  obtain ⟨rfl, hsz, hP, hG, hE⟩ := hv
  subst hsz
  rw [lg_entry_eq]
  exact body p e s m below meth c _ _ ⟨B.exec, B.bytes, hml, findClass_of_methodNamed B.named, atoms_spec (ws := ws) B.pre, B.notSynchronized⟩ hP hG hE ht rfl
    (fun pc ls rest st0 Qa hQ hr => gx_out hQ hr ht B.notSynchronized) (lv_entry av hlen)
theorem gpVX {s : State} {H : Heap} {b : Nat} {As : List Value} {wc : va_W} {ci q0 : Nat} {fs : List Value} {q : vw_C} (hG : gG D tys s) (hE : gE sa (fun q => H.size ≤ q) s H) (hP : va_P D vwCl wc H) (hc : vwCl[ci]? = some q) (he : wc[q0]? = some (b, .inr (ci, fs))) : PreV s H q.1 b (va_Pc (.ref b :: As) (gX D tys sa wc H.size)) As :=
  ⟨gX_blind, va_recv hG.1 hP hc he, fun U hU hW => ⟨rfl, by rw [hU], by rw [hU]; exact hP, hG.warm hW, by rw [hU]; exact hE.warm hW⟩⟩
theorem gpSX {s : State} {H : Heap} {As : List Value} {wc : va_W} (hG : gG D tys s) (hE : gE sa (fun q => H.size ≤ q) s H) (hP : va_P D vwCl wc H) : PreS s H (va_Pc As (gX D tys sa wc H.size)) As :=
  ⟨gX_blind, fun U hU hW => ⟨rfl, by rw [hU], by rw [hU]; exact hP, hG.warm hW, by rw [hU]; exact hE.warm hW⟩⟩
end GX
end
section
/-! the class: the tests that throw -/
set_option maxHeartbeats 4000000 in
set_option maxRecDepth 100000 in
theorem c_X3_requireArgument (l : Launch) (D : va_G) (cy : Nat → ClassId) (v : Int32) (hv : ¬ v = 0) : Met l yX3_requireArgument wsX3_requireArgument ({ frames := 0, cells := 0, slots := 0, locals := 0 } : Room) (va_Pc [.int v] (gR D (gT cy) [])) (va_Sv (fun _ => True)) 0 0 (fun _ => False) := by
  refine gM_v (cc := cX3_requireArgument) (maxL := 1) (by decide) rfl (Nat.le_of_ble_eq_true rfl) ?_
  intro pp ee ss mm bw mt cd QQ ls hfx hP hG hret hl
  obtain ⟨hx, hb, hml, hown, hts, hlocks⟩ := hfx
  have hown : ss.vm.findClass RX3 = some mm.cls := hown
  have hl : lv_has ls 1 [(0, .int v)] := hl
  refine lv_iload_n hx hb dX3_requireArgument_0 rfl (lv_at hl 0 rfl) ?_
  refine lv_if_ne (tgt := 14) hx hb dX3_requireArgument_1 (by decide) (fun c_1 => ?_) (fun c_1 => ?_)
  · skip
    exact hret _ _ dX3_requireArgument_14
  · skip
    exact absurd c_1 hv
theorem xg_X3_requireArgument : ∀ w ∈ Cond.classLink RX3 145 xIA :: Cond.initialized xIA :: vx_atS RX3 149 xIA xNm, vx_ot w = true := by decide +kernel
theorem xc_X3_requireArgument : ∀ w ∈ (vx_atS RX3 149 xIA xNm).filter (fun w => !goodWord w), w ∈ [Cond.castable xIA xIA, Cond.declares (Bundle.initS "java/lang/RuntimeException"), Cond.declares (Bundle.initS "java/lang/Exception"), Cond.declares (Bundle.initS Bundle.tN)] := by decide +kernel
set_option maxHeartbeats 4000000 in
set_option maxRecDepth 100000 in
theorem cx_X3_requireArgument (l : Launch) (hst : l.stackTraces = false) (D : va_G) (cy : Nat → ClassId) (sa : Nat → Nat) (sz : Nat) (v : Int32) (hv : v = 0) : vx_Met l yX3_requireArgument wsX3_requireArgument ({ frames := 6, cells := 1, slots := 6, locals := 90 } : Room) (va_Pc [.int v] (gX D (gT cy) sa [] sz)) gNo (gXC xIA sz) 1 6 (fun q => sz ≤ q) := by
  refine gM_x (cc := cX3_requireArgument) (maxL := 1) (ret := none) (by decide) rfl (Nat.le_of_ble_eq_true rfl) ?_
  intro pp ee ss mm bw mt cd QQ ls hfx hP hG hE ht hQ hx1 hl
  obtain ⟨hx, hb, hml, hown, hts, hlocks⟩ := hfx
  have hown : ss.vm.findClass RX3 = some mm.cls := hown
  have hl : lv_has ls 1 [(0, .int v)] := hl
  refine lv_iload_n hx hb dX3_requireArgument_0 rfl (lv_at hl 0 rfl) ?_
  refine lv_if_ne (tgt := 14) hx hb dX3_requireArgument_1 (by decide) (fun c_1 => ?_) (fun c_1 => ?_)
  · exact absurd hv c_1
  · rw [hQ]
    refine vx_throwS (own := RX3) (cls := xIA) (text := "a parameter is out of range") (names := xNm) (ik := 145) (is := 147) (ic := 149) (sa := sa 0) (A := fun q => ss.heap.size ≤ q) hx hb hst hown (by decide +kernel) (by decide +kernel) (hts (.classLink RX3 145 xIA) (by decide +kernel)) (hts (.initialized xIA) (by decide +kernel)) hE.2.2.1
      (vx_hat (fun w hw => hts w (List.mem_cons_of_mem _ (List.mem_append_right _ hw))) xc_X3_requireArgument (vx_c (va_Nw.use rfl hE.2.2.2.2.2.1) (vx_c (va_Nw.use rfl hE.2.2.2.2.2.2.2.2.1) (vx_c (va_Nw.use rfl hE.2.2.2.2.2.2.2.2.2.1) (vx_c (va_Nw.use rfl hE.2.2.2.2.2.2.2.2.2.2) vx_n))))) xg_X3_requireArgument hE.1 hE.2.1 va_S.rf (hl.1.trans hml.symm)
      dX3_requireArgument_4 dX3_requireArgument_7 dX3_requireArgument_8 dX3_requireArgument_10 dX3_requireArgument_13 (fun x hx9 => (ht x hx9).elim) (Nat.le_of_ble_eq_true rfl) (Nat.le_of_ble_eq_true rfl) (Nat.le_of_ble_eq_true rfl) (Nat.le_of_ble_eq_true rfl) hlocks
      (fun t _ h1 h2 => ⟨rfl, h1, fun q hq _ => h2 q hq⟩) (fun z hz => nomatch hz) (Nat.le_of_ble_eq_true rfl) (Nat.le_of_ble_eq_true rfl)
set_option maxHeartbeats 4000000 in
set_option maxRecDepth 100000 in
theorem c_X3_requireState (l : Launch) (D : va_G) (cy : Nat → ClassId) (v : Int32) (hv : ¬ v = 0) : Met l yX3_requireState wsX3_requireState ({ frames := 0, cells := 0, slots := 0, locals := 0 } : Room) (va_Pc [.int v] (gR D (gT cy) [])) (va_Sv (fun _ => True)) 0 0 (fun _ => False) := by
  refine gM_v (cc := cX3_requireState) (maxL := 1) (by decide) rfl (Nat.le_of_ble_eq_true rfl) ?_
  intro pp ee ss mm bw mt cd QQ ls hfx hP hG hret hl
  obtain ⟨hx, hb, hml, hown, hts, hlocks⟩ := hfx
  have hown : ss.vm.findClass RX3 = some mm.cls := hown
  have hl : lv_has ls 1 [(0, .int v)] := hl
  refine lv_iload_n hx hb dX3_requireState_0 rfl (lv_at hl 0 rfl) ?_
  refine lv_if_ne (tgt := 14) hx hb dX3_requireState_1 (by decide) (fun c_1 => ?_) (fun c_1 => ?_)
  · skip
    exact hret _ _ dX3_requireState_14
  · skip
    exact absurd c_1 hv
theorem xg_X3_requireState : ∀ w ∈ Cond.classLink RX3 150 xIS :: Cond.initialized xIS :: vx_atS RX3 154 xIS xNm, vx_ot w = true := by decide +kernel
theorem xc_X3_requireState : ∀ w ∈ (vx_atS RX3 154 xIS xNm).filter (fun w => !goodWord w), w ∈ [Cond.castable xIS xIS, Cond.declares (Bundle.initS "java/lang/RuntimeException"), Cond.declares (Bundle.initS "java/lang/Exception"), Cond.declares (Bundle.initS Bundle.tN)] := by decide +kernel
set_option maxHeartbeats 4000000 in
set_option maxRecDepth 100000 in
theorem cx_X3_requireState (l : Launch) (hst : l.stackTraces = false) (D : va_G) (cy : Nat → ClassId) (sa : Nat → Nat) (sz : Nat) (v : Int32) (hv : v = 0) : vx_Met l yX3_requireState wsX3_requireState ({ frames := 6, cells := 1, slots := 6, locals := 90 } : Room) (va_Pc [.int v] (gX D (gT cy) sa [] sz)) gNo (gXC xIS sz) 1 6 (fun q => sz ≤ q) := by
  refine gM_x (cc := cX3_requireState) (maxL := 1) (ret := none) (by decide) rfl (Nat.le_of_ble_eq_true rfl) ?_
  intro pp ee ss mm bw mt cd QQ ls hfx hP hG hE ht hQ hx1 hl
  obtain ⟨hx, hb, hml, hown, hts, hlocks⟩ := hfx
  have hown : ss.vm.findClass RX3 = some mm.cls := hown
  have hl : lv_has ls 1 [(0, .int v)] := hl
  refine lv_iload_n hx hb dX3_requireState_0 rfl (lv_at hl 0 rfl) ?_
  refine lv_if_ne (tgt := 14) hx hb dX3_requireState_1 (by decide) (fun c_1 => ?_) (fun c_1 => ?_)
  · exact absurd hv c_1
  · rw [hQ]
    refine vx_throwS (own := RX3) (cls := xIS) (text := "the client is not in the state for this") (names := xNm) (ik := 150) (is := 152) (ic := 154) (sa := sa 1) (A := fun q => ss.heap.size ≤ q) hx hb hst hown (by decide +kernel) (by decide +kernel) (hts (.classLink RX3 150 xIS) (by decide +kernel)) (hts (.initialized xIS) (by decide +kernel)) hE.2.2.2.1
      (vx_hat (fun w hw => hts w (List.mem_cons_of_mem _ (List.mem_append_right _ hw))) xc_X3_requireState (vx_c (va_Nw.use rfl hE.2.2.2.2.2.2.1) (vx_c (va_Nw.use rfl hE.2.2.2.2.2.2.2.2.1) (vx_c (va_Nw.use rfl hE.2.2.2.2.2.2.2.2.2.1) (vx_c (va_Nw.use rfl hE.2.2.2.2.2.2.2.2.2.2) vx_n))))) xg_X3_requireState hE.1 hE.2.1 va_S.rf (hl.1.trans hml.symm)
      dX3_requireState_4 dX3_requireState_7 dX3_requireState_8 dX3_requireState_10 dX3_requireState_13 (fun x hx9 => (ht x hx9).elim) (Nat.le_of_ble_eq_true rfl) (Nat.le_of_ble_eq_true rfl) (Nat.le_of_ble_eq_true rfl) (Nat.le_of_ble_eq_true rfl) hlocks
      (fun t _ h1 h2 => ⟨rfl, h1, fun q hq _ => h2 q hq⟩) (fun z hz => nomatch hz) (Nat.le_of_ble_eq_true rfl) (Nat.le_of_ble_eq_true rfl)
end
