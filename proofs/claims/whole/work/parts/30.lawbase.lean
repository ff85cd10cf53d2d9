/-! THE CLAIM OUT OF ONE WALK OF THE LAW'S BODY. Your part is whole_start (and what it stands on); all else here is the same for every law, but numbers. -/
def R_law : String := "DirtyTilesLaw"
def lw_P (b : Addr) (xs : List Int32) (args : Array Value) (s : State) : Prop := args = #[.ref b] ∧ s.IntsAt b xs ∧ xs.length ≤ 3584 ∧ (Jvm.Cond.and given_1 narrow_1).before args s = true
def lw_Q (_ : Array Value) (s : State) (o : Outcome) (t : State) : Prop := o = .returned (some (.int 1)) ∧ Framed s o t [] 601024 7293034
def lw_Z (below : List Frame) (a : Array Value) (s : State) : State → Prop := fun t => ∃ o, t.status = .running ∧ Ended t below o ∧ lw_Q a s o t
/-- the law's own end, with 1 on the stack, nothing written that was there before, its room as the claim has it -/
theorem lw_ret {p : Program} {l : Launch} {e : Env} {s : State} {m : MethodId} {below : List Frame} {meth : Method} {c : Code} {b : Nat} (hx : p.tables.exec = Jvm.exec) (hb : c.code = code) (hr : meth.sig.returnType = ret) (hlocks : meth.locks = false) {pc : Nat} {H : Heap} {ls : Array Slot} (hdg : decode code pc = .ok (.ireturn, 1)) : W p l e room_1 s m #[Value.ref b] below meth c H [] 601024 7293034 (lw_Z below #[Value.ref b] s) (F0 m pc ls [.int 1]) := by
  intro T hT X
  obtain ⟨fs, hret, hrun, hended, hW, hframe⟩ := X.leave (v := some (.int 1)) (hlocks := hlocks) (fun h => by rw [hr] at h; cases h)
  have hmeth' : T.vm.method? m = some meth := X.method'
  refine ⟨T.setFrames fs, ?_, .returned (some (.int 1)), hrun, hended, rfl, ⟨_, rfl⟩, hW, hframe⟩
  jvm_step X.here [X.here.top, hx, hb, hdg, hmeth', hr, ret, narrow_b1]
  (try refine ⟨rfl, ?_⟩); (try refine ⟨rfl, ?_⟩)
  first | (intro acts; rw [hret _ acts rfl rfl rfl]) | rw [hret _ _ rfl rfl rfl]
  exact Steps.refl _
/-- what holds at the law's entry: the machine, the code, the tables' words (any of lw_tbl by 'hts w (by decide +kernel)'), the script of L ints xs at the cell b, what the Statement gives of the start (any of its parts by flat_of_before) -/
def lw_At (p : Program) (s : State) (m : MethodId) (meth : Method) (c : Code) (b L : Nat) (xs : Nat → Int32) : Prop :=
  p.tables.exec = Jvm.exec ∧ c.code = code ∧ meth.sig.returnType = ret ∧ c.maxLocals = 7 ∧ s.vm.findClass R_law = some m.cls ∧ (∀ w ∈ lw_tbl, w.before #[Value.ref b] s = true) ∧ va_X b L xs s s.heap ∧ b < s.heap.size ∧ meth.locks = false ∧ (Jvm.Cond.and given_1 narrow_1).before #[Value.ref b] s = true

/-! the law's state: 44 cells, the class's and the model's, and what ties them -/
abbrev gQ (q r : Nat → Nat) : Nat → Option Nat := va_up (va_up (fun _ => none) 0 (some (q 0))) 1 (some (r 0))
def Rel (fs : Nat → Int64) (J : Nat → Prop) (LL : Nat → List Nat) (So : Nat → Nat → Int64) (Co Cs : Nat → List Int64) (Ms : Nat → List (Nat × Int64)) (fd ft : Nat → Nat → Int32) (fo fc fm : Nat → Nat → Int64) (sc is ss9 ca zs ow zo d mn se ce wa : Nat → Int32) : Prop :=
  hS fs sc ∧ (∀ c, c < 2 → is c = gb (J c)) ∧ rowsR LL d mn ∧ (∀ c, c < 2 → okD (LL c)) ∧ (∀ c, c < 2 → hSo (So c) ss9 c) ∧ (∀ c, c < 2 → hCo (Cs c) ca c ∧ zs c = nI (Cs c).length ∧ (Cs c).length ≤ 6) ∧ (∀ c, c < 2 → hCo (Co c) ow c ∧ zo c = nI (Co c).length ∧ (Co c).length ≤ 6) ∧ (∀ c, c < 2 → hMo (Ms c) se ce c ∧ wa c = nI (Ms c).length ∧ (Ms c).length ≤ 12 ∧ okM (Ms c)) ∧
  (∀ c, c < 2 → hN (LL c) (fd c)) ∧ (∀ c, c < 2 → hC (Co c) (fo c)) ∧ (∀ c, c < 2 → hC (Cs c) (fc c)) ∧ (∀ c, c < 2 → hM (Ms c) (ft c) (fm c))
noncomputable abbrev lwW (cy : Nat → ClassId) (a q r M : Nat → Nat) (o : Nat) (T uw : Int32) (fs fb : Nat → Int64) (fw : Nat → Int32) (J : Nat → Prop) (LL : Nat → List Nat) (So : Nat → Nat → Int64) (Co Cs : Nat → List Int64) (Ms : Nat → List (Nat × Int64)) (fd ft : Nat → Nat → Int32) (fo fc fm : Nat → Nat → Int64) (sc bf is ss9 ca zs ow zo d mn se ce wa tl9 : Nat → Int32) (fx : Nat → Int64) : va_W := [(a 0, eTop (a 1) (a 3) (a 5) (a 6) uw), (a 1, eScr (a 2)), (a 2, eJ cy 12 fs), (a 3, eScr (a 4)), (a 4, eJ cy 12 fb), (a 5, eQ cy 2 (gQ q r)), (a 6, eI cy 5 fw), (q 0, eCli (gb (J 0)) (q 1) (q 3) (q 5) (q 7) (nI (LL 0).length) (q 8) (q 9) (nI (Ms 0).length)), (q 1, eScr (q 2)), (q 2, eJ cy 12 (So 0)), (q 3, eCch (q 4) (nI (Co 0).length)), (q 4, eJ cy 6 (fo 0)), (q 5, eCch (q 6) (nI (Cs 0).length)), (q 6, eJ cy 6 (fc 0)), (q 7, eI cy 12 (fd 0)), (q 8, eI cy 12 (ft 0)), (q 9, eJ cy 12 (fm 0)), (r 0, eCli (gb (J 1)) (r 1) (r 3) (r 5) (r 7) (nI (LL 1).length) (r 8) (r 9) (nI (Ms 1).length)), (r 1, eScr (r 2)), (r 2, eJ cy 12 (So 1)), (r 3, eCch (r 4) (nI (Co 1).length)), (r 4, eJ cy 6 (fo 1)), (r 5, eCch (r 6) (nI (Cs 1).length)), (r 6, eJ cy 6 (fc 1)), (r 7, eI cy 12 (fd 1)), (r 8, eI cy 12 (ft 1)), (r 9, eJ cy 12 (fm 1)), (M 0, eMod T M uw), (M 1, eI cy 192 sc), (M 2, eI cy 192 bf), (M 3, eZ cy 2 is), (M 4, eI cy 384 ss9), (M 5, eI cy 224 ca), (M 6, eI cy 2 zs), (M 7, eI cy 224 ow), (M 8, eI cy 2 zo), (M 9, eI cy 24 d), (M 10, eI cy 2 mn), (M 11, eI cy 24 se), (M 12, eI cy 384 ce), (M 13, eI cy 2 wa), (M 14, eI cy 5 fw), (M 16, eI cy 16 tl9), (o, eJ cy 1 fx)]
def Inv (D : va_G) (cy : Nat → ClassId) (a q r M : Nat → Nat) (o : Nat) (A : Nat → Prop) (H : Heap) : Prop := ∃ (T uw : Int32) (fs fb : Nat → Int64) (fw : Nat → Int32) (J : Nat → Prop) (LL : Nat → List Nat) (So : Nat → Nat → Int64) (Co Cs : Nat → List Int64) (Ms : Nat → List (Nat × Int64)) (fd ft : Nat → Nat → Int32) (fo fc fm : Nat → Nat → Int64) (sc bf is ss9 ca zs ow zo d mn se ce wa tl9 : Nat → Int32) (fx : Nat → Int64),
  va_P D vwCl (lwW cy a q r M o T uw fs fb fw J LL So Co Cs Ms fd ft fo fc fm sc bf is ss9 ca zs ow zo d mn se ce wa tl9 fx) H ∧ va_D A (lwW cy a q r M o T uw fs fb fw J LL So Co Cs Ms fd ft fo fc fm sc bf is ss9 ca zs ow zo d mn se ce wa tl9 fx) ∧ Rel fs J LL So Co Cs Ms fd ft fo fc fm sc is ss9 ca zs ow zo d mn se ce wa
def LX (p : Program) (s : State) (m : MethodId) (meth : Method) (c : Code) (b L : Nat) (xs : Nat → Int32) (D : va_G) (cy : Nat → ClassId) (sa : Nat → Nat) : Prop := lw_At p s m meth c b L xs ∧ gG D (gT cy) s ∧ gE sa (fun q => s.heap.size ≤ q) s s.heap ∧ gN s ∧ L ≤ 3584
theorem gE_at {sa : Nat → Nat} {s : State} {H : Heap} {locs : List Loc} (hE : gE sa (fun q => s.heap.size ≤ q) s s.heap) (hS : va_S (fun q => s.heap.size ≤ q) s.heap H locs) : gE sa (fun q => H.size ≤ q) s H := (hE.kept (fun a h1 h2 => hS.2.1 a h1 h2)).narrow (fun a h => Nat.le_trans hS.1 h)
/-- a family, otherwise at c -/
def setF {α : Type} (i : Nat) (x : α) (F : Nat → α) : Nat → α := fun c => if c = i then x else F c
theorem setF_s {α : Type} {i : Nat} {x : α} {F : Nat → α} : setF i x F i = x := if_pos rfl
theorem setF_n {α : Type} {i j : Nat} {x : α} {F : Nat → α} (h : j ≠ i) : setF i x F j = F j := if_neg h
/-- one client's row has changed -/
theorem set_all {α : Type} {i : Nat} {x : α} {F : Nat → α} {P P2 : α → Nat → Prop} (h : ∀ c, c < 2 → P (F c) c) (hx : P2 x i) (hk : ∀ c, c < 2 → c ≠ i → P (F c) c → P2 (F c) c) : ∀ c, c < 2 → P2 (setF i x F c) c := by
  intro c hc
  by_cases e : c = i
  · subst e; rw [setF_s]; exact hx
  · rw [setF_n e]; exact hk c hc e (h c hc)
theorem kO_at {n c j : Nat} {f g : Nat → Int32} (h : kO n c f g) {c' : Nat} (hc : c' ≠ c) (hj : j < n) : g (n * c' + j) = f (n * c' + j) := by
  refine h _ ?_
  rcases Nat.lt_or_gt_of_ne hc with z | z
  · left
    have := Nat.mul_le_mul_left n (Nat.succ_le_of_lt z)
    rw [Nat.mul_succ] at this
    omega
  · right
    have := Nat.mul_le_mul_left n (Nat.succ_le_of_lt z)
    rw [Nat.mul_succ] at this
    omega
theorem kO_So {S : Nat → Int64} {f g : Nat → Int32} {c c' : Nat} (h : kO 192 c f g) (hc : c' ≠ c) (hs : hSo S f c') : hSo S g c' := fun x y hx hy => (kO_at h hc (by omega)).trans (hs x y hx hy)
theorem kO_Co {C : List Int64} {f g : Nat → Int32} {c c' : Nat} (h : kO 112 c f g) (hc : c' ≠ c) (hl : C.length ≤ 6) (hs : hCo C f c') : hCo C g c' := fun p k hp hk => by
  have e := kO_at h hc (j := 16 * p + k) (by omega)
  rw [← Nat.add_assoc] at e
  exact e.trans (hs p k hp hk)
theorem kO_Mo {Ml : List (Nat × Int64)} {se ce se2 ce2 : Nat → Int32} {c c' : Nat} (h : kO 12 c se se2) (h2 : kO 192 c ce ce2) (hc : c' ≠ c) (hl : Ml.length ≤ 12) (hs : hMo Ml se ce c') : hMo Ml se2 ce2 c' := fun j hj => by
  refine ⟨(kO_at h hc (by omega)).trans (hs j hj).1, fun k hk => ?_⟩
  have e := kO_at h2 hc (j := 16 * j + k) (by omega)
  have e2 : 192 * c' + (16 * j + k) = 16 * (12 * c' + j) + k := by omega
  rw [e2] at e
  exact e.trans ((hs j hj).2 k hk)
section GLW
variable {p : Program} {l : Launch} {e : Env} {R : Room} {s : State} {m : MethodId} {args : Array Value} {below : List Frame} {meth : Method} {c : Code} {H : Heap} {locs : List Loc} {cells slots : Nat} {Q : State → Prop}
variable {pc : Nat} {ls : Array Slot} {rest st0 : List Value} {a : Array Value} {D : va_G} {cc : ByteArray} {A : Nat → Prop} {ws : va_W} {H0 : Heap}
theorem gc_Bad {kx : Int32} (hr : va_Run p l e R s m args below meth c H locs cells slots 1 6 (F0 m pc ls st0) rest (va_Qi (fun (r9 : Int32) (_ : Unit) => r9 = kx) (fun _ _ => True) (fun q => H.size ≤ q) a) (fun q => H.size ≤ q)) (hP : va_P D vwCl ws H) (hS : va_S A H0 H locs) (hA : ∀ q, H0.size ≤ q → A q)
    (kk : ∀ (H1 : Heap) (locs1 : List Loc), va_P D vwCl ws H1 → va_S A H0 H1 locs1 → W p l e R s m args below meth c H1 locs1 (cells + 1) (slots + 6) Q (F0 m (pc + 3) ls (.int kx :: rest))) : W p l e R s m args below meth c H locs cells slots Q (F0 m pc ls st0) := by
  refine va_calli hr hS (fun q h1 h2 => absurd h2 (Nat.not_le.mpr h1)) (fun q h => hA q (Nat.le_trans hS.1 h)) (fun r u t H1 locs1 ht hvm hw hB hz1 hk1 hS1 => ?_)
  rw [hw]
  exact kk H1 locs1 (hP.kept (fun k x hx => hk1 x.1 (vx_lt hP hx) (Nat.not_le.mpr (vx_lt hP hx)))) hS1
theorem g_sld (hexec : p.tables.exec = Jvm.exec) (hb : c.code = cc) {b L : Nat} {xs : Nat → Int32} (hX : va_X b L xs s H0) (hbl : b < H0.size) (hbA : ¬ A b) (hS : va_S A H0 H locs) {k : Nat} {v : Int32} (hk : k < L) (hL : L ≤ 3584) (hv : xs k = v) (hdg : decode cc pc = .ok (.iaload, 1))
    (kk : W p l e R s m args below meth c H locs cells slots Q (F0 m (pc + 1) ls (.int v :: rest))) : W p l e R s m args below meth c H locs cells slots Q (F0 m pc ls (.int (nI k) :: .ref b :: rest)) :=
  va_sld hexec hb hX hbl hbA hS (vp_in_nI hk (by omega)) hdg (by rw [nI_clamp (by omega), hv]; exact kk)
end GLW
theorem pIn_at {v : Int32} {n : Nat} (h : pIn v 0 n) : ∃ j : Nat, j < n + 1 ∧ v = nI j := by
  obtain ⟨j, h1, h2⟩ := pIn_nat h
  exact ⟨j, by omega, h2⟩
theorem pIn_lo {v : Int32} {lo : Nat} {hi : Int} (h : pIn v lo hi) : ∃ j : Nat, lo ≤ j ∧ (j : Int) ≤ hi ∧ v = nI j := by
  have h2 := fb_rng v
  have h0 : (lo : Int) ≤ v.toInt := h.1
  have h1 : v.toInt ≤ hi := h.2
  refine ⟨v.toInt.toNat, by omega, by omega, Int32.toInt_inj.mp ?_⟩
  rw [nI_toInt (by omega)]
  omega
theorem pBox_nat {x y z t : Int32} (h : pBox x y z t) : ∃ c r w n : Nat, x = nI c ∧ y = nI r ∧ z = nI w ∧ t = nI n ∧ c < 16 ∧ r < 12 ∧ (1 ≤ w ∧ w + c ≤ 16) ∧ (1 ≤ n ∧ n + r ≤ 12) := by
  obtain ⟨⟨h1, h2⟩, h3, h4⟩ := h
  obtain ⟨c, hc, rfl⟩ := pIn_nat (n := 15) h1
  obtain ⟨r, hr, rfl⟩ := pIn_nat (n := 11) h2
  obtain ⟨w, hw1, hw2, rfl⟩ := pIn_lo (lo := 1) h3
  obtain ⟨n, hn1, hn2, rfl⟩ := pIn_lo (lo := 1) h4
  rw [nI_toInt (by omega)] at hw2 hn2
  exact ⟨c, r, w, n, rfl, rfl, rfl, rfl, by omega, by omega, ⟨hw1, by omega⟩, ⟨hn1, by omega⟩⟩
