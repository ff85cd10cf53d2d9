/-! an object of the class: its abstract state, its cells, what its calls do to it -/
abbrev ob_T : Type := (Nat → Int64) × Int32 × (Nat → Int32) × (Nat → Prop) × (Nat → List Nat) × (Nat → Nat → Int64) × (Nat → List Int64) × (Nat → List Int64) × (Nat → List (Nat × Int64))
abbrev ob_K : Type := (Nat → Int64) × (Nat → Nat → Int32) × (Nat → Nat → Int32) × (Nat → Nat → Int64) × (Nat → Nat → Int64) × (Nat → Nat → Int64)
abbrev ob_F (x : ob_T) : Nat → Int64 := x.1
abbrev ob_U (x : ob_T) : Int32 := x.2.1
abbrev ob_W (x : ob_T) : Nat → Int32 := x.2.2.1
abbrev ob_J (x : ob_T) : Nat → Prop := x.2.2.2.1
abbrev ob_L (x : ob_T) : Nat → List Nat := x.2.2.2.2.1
abbrev ob_S (x : ob_T) : Nat → Nat → Int64 := x.2.2.2.2.2.1
abbrev ob_O (x : ob_T) : Nat → List Int64 := x.2.2.2.2.2.2.1
abbrev ob_C (x : ob_T) : Nat → List Int64 := x.2.2.2.2.2.2.2.1
abbrev ob_M (x : ob_T) : Nat → List (Nat × Int64) := x.2.2.2.2.2.2.2.2
abbrev gQ (q r : Nat → Nat) : Nat → Option Nat := va_up (va_up (fun _ => none) 0 (some (q 0))) 1 (some (r 0))
noncomputable abbrev ob_w (cy : Nat → ClassId) (a q r : Nat → Nat) (x : ob_T) (y : ob_K) : va_W := [(a 0, eTop (a 1) (a 3) (a 5) (a 6) (ob_U x)), (a 1, eScr (a 2)), (a 2, eJ cy 12 (ob_F x)), (a 3, eScr (a 4)), (a 4, eJ cy 12 y.1), (a 5, eQ cy 2 (gQ q r)), (a 6, eI cy 5 (ob_W x)),
  (q 0, eCli (gb (ob_J x 0)) (q 1) (q 3) (q 5) (q 7) (nI (ob_L x 0).length) (q 8) (q 9) (nI (ob_M x 0).length)), (q 1, eScr (q 2)), (q 2, eJ cy 12 (ob_S x 0)), (q 3, eCch (q 4) (nI (ob_O x 0).length)), (q 4, eJ cy 6 (y.2.2.2.1 0)), (q 5, eCch (q 6) (nI (ob_C x 0).length)), (q 6, eJ cy 6 (y.2.2.2.2.1 0)), (q 7, eI cy 12 (y.2.1 0)), (q 8, eI cy 12 (y.2.2.1 0)), (q 9, eJ cy 12 (y.2.2.2.2.2 0)),
  (r 0, eCli (gb (ob_J x 1)) (r 1) (r 3) (r 5) (r 7) (nI (ob_L x 1).length) (r 8) (r 9) (nI (ob_M x 1).length)), (r 1, eScr (r 2)), (r 2, eJ cy 12 (ob_S x 1)), (r 3, eCch (r 4) (nI (ob_O x 1).length)), (r 4, eJ cy 6 (y.2.2.2.1 1)), (r 5, eCch (r 6) (nI (ob_C x 1).length)), (r 6, eJ cy 6 (y.2.2.2.2.1 1)), (r 7, eI cy 12 (y.2.1 1)), (r 8, eI cy 12 (y.2.2.1 1)), (r 9, eJ cy 12 (y.2.2.2.2.2 1))]
/-- what ties the arrays to the lists, for both clients -/
def ob_ok (LL : Nat → List Nat) (Co Cs : Nat → List Int64) (Ms : Nat → List (Nat × Int64)) (fd ft : Nat → Nat → Int32) (fo fc fm : Nat → Nat → Int64) : Prop :=
  (∀ c, c < 2 → okD (LL c)) ∧ (∀ c, c < 2 → (Cs c).length ≤ 6) ∧ (∀ c, c < 2 → (Co c).length ≤ 6) ∧ (∀ c, c < 2 → (Ms c).length ≤ 12 ∧ okM (Ms c)) ∧ (∀ c, c < 2 → hN (LL c) (fd c)) ∧ (∀ c, c < 2 → hC (Co c) (fo c)) ∧ (∀ c, c < 2 → hC (Cs c) (fc c)) ∧ (∀ c, c < 2 → hM (Ms c) (ft c) (fm c))
abbrev ob_k (x : ob_T) (y : ob_K) : Prop := ob_ok (ob_L x) (ob_O x) (ob_C x) (ob_M x) y.2.1 y.2.2.1 y.2.2.2.1 y.2.2.2.2.1 y.2.2.2.2.2
def pair2 {α : Type} (x y : α) : Nat → α
  | 0 => x
  | _ => y
theorem two9 {P : Nat → Prop} (h0 : P 0) (h1 : P 1) : ∀ c, c < 2 → P c := by
  intro c hc
  rcases (show c = 0 ∨ c = 1 by omega) with rfl | rfl
  · exact h0
  · exact h1
/-- one client's part, otherwise -/
def upC {α : Type} (j : Nat) (v : α) (F : Nat → α) : Nat → α := match j with
  | 0 => pair2 v (F 1)
  | _ => pair2 (F 0) v
theorem upC_s {α : Type} {j : Nat} {v : α} {F : Nat → α} (hj : j < 2) : upC j v F j = v := by
  rcases (show j = 0 ∨ j = 1 by omega) with rfl | rfl <;> rfl
theorem upC_n {α : Type} {j c : Nat} {v : α} {F : Nat → α} (hj : j < 2) (hc : c < 2) (h : c ≠ j) : upC j v F c = F c := by
  rcases (show j = 0 ∨ j = 1 by omega) with rfl | rfl
  · have : c = 1 := by omega
    subst this; rfl
  · have : c = 0 := by omega
    subst this; rfl
theorem nI_inj {a b : Nat} (ha : a < 2 ^ 31) (hb : b < 2 ^ 31) (h : nI a = nI b) : a = b := by
  have h2 := congrArg Int32.toInt h
  rw [nI_toInt ha, nI_toInt hb] at h2
  omega
abbrev cN (x : Int32) : Nat := x.toInt.toNat
theorem cN_nI {k : Nat} (h : k < 2 ^ 31) : cN (nI k) = k := by
  show (nI k).toInt.toNat = k
  rw [nI_toInt h]; rfl
abbrev k99 : Int32 := (-99999)
theorem k99_n {k : Nat} (h : k < 2 ^ 31) : ¬ nI k = k99 := fun e => by
  have h2 := congrArg Int32.toInt e
  rw [nI_toInt h, show k99.toInt = -99999 from by decide] at h2
  omega
/-! what a call answers, and leaves -/
def r_draw (x : ob_T) (V : Nat → Nat → Nat) (ret : Int32) (u : ob_T) : Prop := ∃ f2 : Nat → Int64, gD f2 V ∧ ret = nI (sumD (ob_F x) f2 12) ∧ u = (f2, ob_U x, ob_W x, ob_J x, (fun c => stlF (ob_J x c) (ob_F x) f2 (ob_L x c) 12), ob_S x, ob_O x, ob_C x, ob_M x)
def r_fill (x : ob_T) (c r w h v : Int32) (ret : Int32) (u : ob_T) : Prop := ((pBox c r w h ∧ pIn v 0 15) ∧ r_draw x (finF (ob_F x) (cN c) (cN r) (cN w) (cN h) (cN v)) ret u) ∨ (¬ (pBox c r w h ∧ pIn v 0 15) ∧ ret = k99 ∧ u = x)
def r_copy (x : ob_T) (c r w h dx dy : Int32) (ret : Int32) (u : ob_T) : Prop := ((pBox c r w h ∧ pIn dx (-15) 15 ∧ pIn dy (-11) 11) ∧ r_draw x (finC (ob_F x) (cN c) (cN r) (cN w) (cN h) dx.toInt dy.toInt) ret u) ∨ (¬ (pBox c r w h ∧ pIn dx (-15) 15 ∧ pIn dy (-11) 11) ∧ ret = k99 ∧ u = x)
def r_join (x : ob_T) (i : Int32) (ret : Int32) (u : ob_T) : Prop := (∃ j f2, j < 2 ∧ i = nI j ∧ (∀ k, k < 12 → f2 k = 0) ∧ ret = nI 12 ∧ u = (ob_F x, ob_U x, ob_W x, upC j True (ob_J x), upC j (List.range 12) (ob_L x), upC j f2 (ob_S x), upC j [] (ob_O x), upC j [] (ob_C x), upC j [] (ob_M x))) ∨ (¬ (∃ j, j < 2 ∧ i = nI j) ∧ ret = k99 ∧ u = x)
def g_ask (x : ob_T) (i b : Int32) (j n : Nat) : Prop := j < 2 ∧ i = nI j ∧ n ≤ 300 ∧ b = nI n ∧ ob_J x j ∧ (ob_M x j).length = 0
def r_ask (x : ob_T) (i b : Int32) (ret : Int32) (u : ob_T) : Prop := (∃ j n L2 M2 C2 left2 w2, g_ask x i b j n ∧ askF (ob_F x) (ob_L x j) [] (ob_C x j) n (ob_W x) = (L2, M2, C2, left2, w2) ∧ left2 ≤ n ∧ ret = nI M2.length ∧ M2.length ≤ 12 ∧
    u = (ob_F x, ob_U x + nI (n - left2), w2, ob_J x, upC j L2 (ob_L x), ob_S x, ob_O x, upC j C2 (ob_C x), upC j M2 (ob_M x))) ∨ (¬ (∃ j n, g_ask x i b j n) ∧ ret = k99 ∧ u = x)
def g_ans (x : ob_T) (i : Int32) (j : Nat) : Prop := j < 2 ∧ i = nI j ∧ ob_J x j ∧ 0 < (ob_M x j).length
def r_ans (x : ob_T) (i : Int32) (ret : Int32) (u : ob_T) : Prop := (∃ j, g_ans x i j ∧ ret = nI (ob_M x j).length ∧ (ob_M x j).length ≤ 12 ∧ u = (ob_F x, ob_U x, ob_W x, ob_J x, ob_L x, upC j (scrF (ob_M x j) (ob_S x j)) (ob_S x), upC j (cchF (ob_M x j) (ob_O x j)) (ob_O x), ob_C x, upC j [] (ob_M x))) ∨ (¬ (∃ j, g_ans x i j) ∧ ret = k99 ∧ u = x)
theorem no_ix {i : Int32} (h : ¬ pIn i 0 1) : ¬ ∃ j, j < 2 ∧ i = nI j := fun ⟨j, h1, h2⟩ => h (by rw [h2]; exact ok_idx (n := 1) (by omega) (by decide))
theorem ix_eq {j k : Nat} (hj : j < 2) (hk : k < 2) (h : nI j = nI k) : j = k := nI_inj (by omega) (by omega) h
theorem ans_b {x : ob_T} {i : Int32} (h : ¬ pIn i 0 1) : r_ans x i k99 x := Or.inr ⟨fun ⟨j, h1, h2, _⟩ => no_ix h ⟨j, h1, h2⟩, rfl, rfl⟩
theorem ans_s {x : ob_T} {j : Nat} (hj : j < 2) (h : ¬ ob_J x j) : r_ans x (nI j) k99 x := Or.inr ⟨fun ⟨k, h1, h2, h3, _⟩ => by rw [← ix_eq hj h1 h2] at h3; exact h h3, rfl, rfl⟩
theorem ans_m {x : ob_T} {j : Nat} (hj : j < 2) (h : ¬ 0 < (ob_M x j).length) : r_ans x (nI j) k99 x := Or.inr ⟨fun ⟨k, h1, h2, _, h3⟩ => by rw [← ix_eq hj h1 h2] at h3; exact h h3, rfl, rfl⟩
theorem ask_b {x : ob_T} {i b : Int32} (h : ¬ (pIn i 0 1 ∧ pIn b 0 300)) : r_ask x i b k99 x := Or.inr ⟨fun ⟨j, n, h1, h2, h3, h4, _⟩ => h ⟨by rw [h2]; exact ok_idx (n := 1) (by omega) (by decide), by rw [h4]; exact ok_idx (n := 300) (by omega) (by decide)⟩, rfl, rfl⟩
theorem ask_s {x : ob_T} {b : Int32} {j : Nat} (hj : j < 2) (h : ¬ ob_J x j) : r_ask x (nI j) b k99 x := Or.inr ⟨fun ⟨k, n, h1, h2, _, _, h3, _⟩ => by rw [← ix_eq hj h1 h2] at h3; exact h h3, rfl, rfl⟩
theorem ask_m {x : ob_T} {b : Int32} {j : Nat} (hj : j < 2) (h : 0 < (ob_M x j).length) : r_ask x (nI j) b k99 x := Or.inr ⟨fun ⟨k, n, h1, h2, _, _, _, h3⟩ => by rw [← ix_eq hj h1 h2] at h3; omega, rfl, rfl⟩
theorem stlF_cong {J : Prop} {b b2 s : Nat → Int64} {L : List Nat} (h : ∀ k, k < 12 → b k = b2 k) : ∀ i, i ≤ 12 → stlF J b s L i = stlF J b2 s L i
  | 0, _ => rfl
  | i + 1, hi => by
    show (if 0 < nDif (b i) (s i) then soilJ J (stlF J b s L i) i else stlF J b s L i) = (if 0 < nDif (b2 i) (s i) then soilJ J (stlF J b2 s L i) i else stlF J b2 s L i)
    rw [stlF_cong h i (by omega), h i (by omega)]
theorem sumD_cong {b b2 s : Nat → Int64} (h : ∀ k, k < 12 → b k = b2 k) : ∀ i, i ≤ 12 → sumD b s i = sumD b2 s i
  | 0, _ => rfl
  | i + 1, hi => by
    show sumD b s i + nDif (b i) (s i) = sumD b2 s i + nDif (b2 i) (s i)
    rw [sumD_cong h i (by omega), h i (by omega)]
theorem range_getD {j n : Nat} (h : j < n) : (List.range n).getD j 0 = j := by
  rw [List.getD_eq_getElem?_getD, List.getElem?_range h]; rfl
theorem okD_range : okD (List.range 12) := ⟨List.nodup_range, fun d h => List.mem_range.mp h⟩
theorem hM_nil {f : Nat → Int32} {g : Nat → Int64} : hM [] f g := fun i h => absurd h (Nat.not_lt_zero i)
theorem hC_nil {f : Nat → Int64} : hC [] f := fun i h => absurd h (Nat.not_lt_zero i)
theorem okM_nil : okM [] := fun i h => absurd h (Nat.not_lt_zero i)
theorem hN_range {f : Nat → Int32} (h : ∀ k, k < 12 → f k = nI k) : hN (List.range 12) f := fun j hj => by rw [List.length_range] at hj; rw [h j hj, range_getD hj]
/-! what a method of the law stands on: exceptions may be made, the world may change -/
def gN (U : State) : Prop := va_Nc xIS xIA U ∧ va_Nc xIO xIA U ∧ va_Nc xIO xIS U
theorem gN.alike {s U : State} (h : gN s) (hA : s.vm.Alike U.vm) : gN U := ⟨h.1.moved hA, h.2.1.moved hA, h.2.2.moved hA⟩
theorem gcast {A : Array Value} {s : State} {C T : String} (h : va_Nw (.castable C T) s) : (Cond.castable C T).before A s = true := va_tabs rfl rfl h
def gZ (D : va_G) (tys : List (ClassId × FieldType)) (sa : Nat → Nat) (A : Nat → Prop) (wd : va_W) (sz : Nat) : State → Prop := fun U => gI D tys wd sz U ∧ gE sa A U U.heap ∧ gN U
theorem gZ_blind {av : List Value} {D : va_G} {tys : List (ClassId × FieldType)} {sa : Nat → Nat} {A : Nat → Prop} {wd : va_W} {sz : Nat} : FrameBlind (va_Pc av (gZ D tys sa A wd sz)) := fun a U g mk q => ⟨q.1, (gI_blind (av := av) a U g mk ⟨q.1, q.2.1⟩).2, gE.vm (U := U.calling g mk a) q.2.2.1 rfl, gN.alike (U := U.calling g mk a) q.2.2.2 (Vm.Alike.refl U.vm)⟩
theorem gE_in {sa : Nat → Nat} {A B : Nat → Prop} {s : State} {H0 H : Heap} {locs : List Loc} (hE : gE sa A s H0) (hS : va_S A H0 H locs) (hq : ∀ a : Nat, B a → A a) : gE sa B s H := (hE.kept (fun a h1 h2 => hS.2.1 a h1 h2)).narrow hq
theorem gE_at {sa : Nat → Nat} {A : Nat → Prop} {s : State} {H0 H : Heap} {locs : List Loc} (hE : gE sa A s H0) (hS : va_S A H0 H locs) (hA : ∀ q : Nat, H0.size ≤ q → A q) : gE sa (fun q => H.size ≤ q) s H := gE_in hE hS (fun a h => hA a (Nat.le_trans hS.1 h))
/-- a call of a method that may change its world and make exceptions -/
theorem gpSZ {s : State} {H0 H : Heap} {As : List Value} {ws wc : va_W} {A0 : Nat → Prop} {locs : List Loc} {D : va_G} {tys : List (ClassId × FieldType)} {sa : Nat → Nat} (hG : gG D tys s) (hE : gE sa A0 s H0) (hN : gN s) (hP : va_P D vwCl ws H) (hD : va_D A0 ws) (hS : va_S A0 H0 H locs) (hA : ∀ q, H0.size ≤ q → A0 q) (isC : List Nat) (hC : isC.map (fun i => ws[i]?) = wc.map some) (hnd : va_nd isC = true) : PreS s H (va_Pc As (gZ D tys sa (va_A wc H.size) wc H.size)) As :=
  ⟨gZ_blind, fun U hU hW => ⟨rfl, ⟨by rw [hU], by rw [hU]; exact hP.sub isC (g_fm hC), hG.warm hW, (hD.sub isC hnd hC).weaken (fun _ _ _ _ => trivial)⟩, by rw [hU]; exact (gE_in hE hS (va_free hD hS hA isC hC)).warm hW, hN.alike hW.alike⟩⟩
/-- a call of a method that may only make exceptions -/
theorem gpSY {s : State} {H0 H : Heap} {As : List Value} {wc : va_W} {A0 B0 : Nat → Prop} {locs : List Loc} {D : va_G} {tys : List (ClassId × FieldType)} {sa : Nat → Nat} (hG : gG D tys s) (hE : gE sa A0 s H0) (hN : gN s) (hP : va_P D vwCl wc H) (hD : va_D B0 wc) (hS : va_S A0 H0 H locs) (hA : ∀ q, H0.size ≤ q → A0 q) : PreS s H (va_Pc As (gZ D tys sa (fun q => H.size ≤ q) wc H.size)) As :=
  ⟨gZ_blind, fun U hU hW => ⟨rfl, ⟨by rw [hU], by rw [hU]; exact hP, hG.warm hW, hD.weaken (fun _ _ _ _ => trivial)⟩, by rw [hU]; exact (gE_at hE hS hA).warm hW, hN.alike hW.alike⟩⟩
theorem gpVY {s : State} {H : Heap} {b : Nat} {As : List Value} {wc wr : va_W} {D : va_G} {tys : List (ClassId × FieldType)} {sa : Nat → Nat} {ci q0 : Nat} {fs : List Value} {q : vw_C} (hG : gG D tys s) (hE : gE sa (fun q => H.size ≤ q) s H) (hP : va_P D vwCl wc H) (hR : va_P D vwCl wr H) (hc : vwCl[ci]? = some q) (he : wr[q0]? = some (b, .inr (ci, fs))) : PreV s H q.1 b (va_Pc (.ref b :: As) (gX D tys sa wc H.size)) As :=
  ⟨gX_blind, va_recv hG.1 hR hc he, fun U hU hW => ⟨rfl, by rw [hU], by rw [hU]; exact hP, hG.warm hW, by rw [hU]; exact hE.warm hW⟩⟩
section GZC
variable {p : Program} {l : Launch} {e : Env} {R : Room} {s : State} {m : MethodId} {args : Array Value} {below : List Frame} {meth : Method} {c : Code} {H : Heap} {locs : List Loc} {cells slots : Nat} {Q : State → Prop}
variable {pc : Nat} {ls : Array Slot} {rest st0 : List Value} {a : Array Value} {D : va_G} {tys : List (ClassId × FieldType)} {mc ms : Nat}
theorem gc_Zi {S : Type} {post : Int32 → S → Prop} {wo wn : S → va_W} {ws wc wr : va_W} {A0 : Nat → Prop} {H0 : Heap} (hr : va_Run p l e R s m args below meth c H locs cells slots mc ms (F0 m pc ls st0) rest (va_Qi post (gO D wo (va_A wc H.size)) (va_A wc H.size) a) (va_A wc H.size))
    (hP : va_P D vwCl ws H) (hD : va_D A0 ws) (hS : va_S A0 H0 H locs) (hA : ∀ q, H0.size ≤ q → A0 q) (isC isR isP : List Nat) (hC : isC.map (fun i => ws[i]?) = wc.map some) (hR : isR.map (fun i => ws[i]?) = wr.map some) (hn : va_nd isR = true) (hdis : ∀ i ∈ isR, i ∉ isC)
    (hp : ∀ u, isP.map (fun i => (wr ++ wo u)[i]?) = (wn u).map some) (hnp : va_nd isP = true)
    (kk : ∀ (r : Int32) (u : S) (H1 : Heap) (locs1 : List Loc), post r u → va_P D vwCl (wn u) H1 → va_D A0 (wn u) → va_S A0 H0 H1 locs1 → W p l e R s m args below meth c H1 locs1 (cells + mc) (slots + ms) Q (F0 m (pc + 3) ls (.int r :: rest))) : W p l e R s m args below meth c H locs cells slots Q (F0 m pc ls st0) := by
  have hF := va_free (wc := wc) hD hS hA isC hC
  refine va_calli hr hS (fun q _ h => hF q h) hF (fun r u t H1 locs1 ht hvm hw hB hz1 hk1 hS1 => ?_)
  obtain ⟨hP1, hD1⟩ := hB
  rw [ht] at hP1
  obtain ⟨hP2, hD2⟩ := va_join hP hD isC isR hC hR hn hdis hk1 hF hP1 hD1
  exact kk r u H1 locs1 hw (hP2.sub isP (g_fm (hp u))) (hD2.sub isP hnp (hp u)) hS1
/-- behind a call that only makes exceptions -/
theorem gc_Yi {kx : Int32} {B0 : Nat → Prop} {A : Nat → Prop} {ws : va_W} {H0 : Heap} (hr : va_Run p l e R s m args below meth c H locs cells slots mc ms (F0 m pc ls st0) rest (va_Qi (fun (r9 : Int32) (_ : Unit) => r9 = kx) (fun _ _ => True) (fun q => H.size ≤ q) a) (fun q => H.size ≤ q)) (hP : va_P D vwCl ws H) (hS : va_S A H0 H locs) (hA : ∀ q, H0.size ≤ q → A q)
    (kk : ∀ (H1 : Heap) (locs1 : List Loc), va_P D vwCl ws H1 → va_S A H0 H1 locs1 → W p l e R s m args below meth c H1 locs1 (cells + mc) (slots + ms) Q (F0 m (pc + 3) ls (.int kx :: rest))) : W p l e R s m args below meth c H locs cells slots Q (F0 m pc ls st0) := by
  refine va_calli hr hS (fun q h1 h2 => absurd h2 (Nat.not_le.mpr h1)) (fun q h => hA q (Nat.le_trans hS.1 h)) (fun r u t H1 locs1 ht hvm hw hB hz1 hk1 hS1 => ?_)
  rw [hw]
  exact kk H1 locs1 (hP.kept (fun k x hx => hk1 x.1 (vx_lt hP hx) (Nat.not_le.mpr (vx_lt hP hx)))) hS1
/-- a call that throws, and is caught here -/
theorem gx_catchZ {own name E : String} {ws : va_W} {A : Nat → Prop} {H0 : Heap} {Qa : State → Outcome → State → Prop} (hQ : ∀ a b c, ¬ Qa a b c)
    (hr : vx_Run p l e R s m args below meth c H locs cells slots 1 6 (F0 m pc ls st0) rest Qa (gXC E H.size) (fun q => H.size ≤ q)) (hP : va_P D vwCl ws H) (hS : va_S A H0 H locs) (hA : ∀ q, H0.size ≤ q → A q)
    (hown : s.vm.findClass own = some m.cls) (pre : List ExceptionTableEntry) (x : ExceptionTableEntry) (suf : List ExceptionTableEntry) (hsplit : c.exceptionTable.toList = pre ++ x :: suf)
    (hpass : ∀ z ∈ pre, covers z pc = false ∨ (z.catchType ≠ 0 ∧ ∃ nm : String, (Cond.classLink own z.catchType nm).before args s = true ∧ va_Nc E nm s)) (hx : covers x pc = true) (h0 : x.catchType ≠ 0)
    (hlink : (Cond.classLink own x.catchType name).before args s = true) (hcast : (Cond.castable E name).before args s = true)
    (kk : ∀ (H1 : Heap) (locs1 : List Loc) (q9 : Nat), va_P D vwCl ws H1 → va_S A H0 H1 locs1 → W p l e R s m args below meth c H1 locs1 (cells + 1) (slots + 6) Q (F0 m x.handlerPc ls [.ref q9])) : W p l e R s m args below meth c H locs cells slots Q (F0 m pc ls st0) := by
  intro T hT X
  rcases hr T hT X with ⟨v, st₀, t, T', L, h0', X', hL, e1, e2, hq, st⟩ | ⟨q, st₀, t, T', L, E', ce, h0', X', hL, e1, e2, ⟨hE, hF⟩, hce, hcv, hcl, st⟩
  · exact absurd hq (hQ _ _ _)
  · subst hE
    obtain ⟨hz, hk⟩ := hF
    rw [h0'] at hz hk
    obtain ⟨t2, a1, b1⟩ := vx_catch (pc := pc) (ls := ls) (rest := rest) (E := E') (ce := ce) (q := q) (H := T'.heap) (locs := locs ++ L) (cells := cells + 1) (slots := slots + 6) (Q := Q) hown pre x suf hsplit hpass hx h0 hlink hcast (by rw [e1]; exact hce) hcv hcl
      (kk T'.heap (locs ++ L) q (by rw [e1]; exact hP.kept (fun k x hx => hk x.1 (vx_lt hP hx) (Nat.not_le.mpr (vx_lt hP hx)))) ⟨Nat.le_trans hS.1 (by rw [e1]; exact hz), fun z h1 h2 => by rw [e1, hk z (Nat.lt_of_lt_of_le h1 hS.1) (Nat.not_le.mpr (Nat.lt_of_lt_of_le h1 hS.1))]; exact hS.2.1 z h1 h2, fun z hz9 => by
        rcases List.mem_append.mp hz9 with h | h
        · exact hS.2.2 z h
        · exact hA _ (Nat.le_trans hS.1 (hL z h))⟩) T' rfl X'
    exact ⟨t2, st.trans a1, b1⟩
end GZC
section GZB
variable {l : Launch} {y : MethodName} {ws ws' : List Cond} {rm : Room} {cc : ByteArray} {maxL : Nat} {av : List Value} {D : va_G} {tys : List (ClassId × FieldType)} {wd : va_W} {sa : Nat → Nat} {sz : Nat} {hh : List (Nat × Nat × Nat × Nat)} {mc ms : Nat}
theorem Met_ofWH {Pc : Array Value → State → Prop} {Qc : Array Value → State → Outcome → State → Prop} {free : Addr → Prop} {ret : Option FieldType} (hy : plainName y.cls = true) (hw : ws = Cond.codeWith y cc maxL ret hh :: ws')
    (body : ∀ p e s m args below meth c s₁, BodyLoose p l y (headSpec ws rm) cc maxL ret e s m args below meth c s₁ → c.maxLocals = maxL → Pc args s →
      W p l e (headSpec ws rm).room s m args below meth c s.heap [] 0 0 (MQ below Qc args s mc ms free) (entryFrame m args maxL)) : Met l y ws rm Pc Qc mc ms free := by
  refine MetFree.of_bodyS (code := cc) (maxLocals := maxL) (ret := ret) hy ?_ ?_
  · intro args s m h hn
    obtain ⟨m9, meth, c, hn9, h1, h2, h3, h4, -, h5, h6, -⟩ := Cond.codeWith_spec (atoms_spec (ws := ws) h _ (by rw [hw]; exact List.mem_cons_self))
    cases hn.symm.trans hn9
    exact ⟨meth, c, h1, h2, h3, h4, h5, h6⟩
  · intro p e s m args below meth c s₁ B hml hP _
    have hh0 : s₁.heap = s.heap := by rw [B.state]; rfl
    obtain ⟨t, a1, o, b1, b2, b3⟩ := body p e s m args below meth c s₁ B hml hP s₁ hh0 (Stand.of_body B)
    exact ⟨t, o, a1, b1, b2, b3⟩
/-- a body with handlers that may change its world -/
theorem gH_z {S : Type} {post : Int32 → S → Prop} {wo : S → va_W} (hy : plainName y.cls = true) (hw : ws = Cond.codeWith y cc maxL (some .int) hh :: ws') (hlen : (lg_sl av).length ≤ maxL)
    (body : ∀ (p : Program) (e : Env) (s : State) (m : MethodId) (below : List Frame) (meth : Method) (c : Code) (Q : State → Prop) (A : Nat → Prop) (ls : Array Slot), gFx y.cls cc maxL ws p s m av.toArray meth c → va_P D vwCl wd s.heap → gG D tys s → va_D A wd → (∀ q : Nat, s.heap.size ≤ q → A q) → gE sa A s s.heap → gN s → c.exceptionTable.toList = tableOf hh →
      (∀ (H : Heap) (locs : List Loc) (cells slots pc : Nat) (ls : Array Slot) (v : Int32) (u : S), decode cc pc = .ok (.ireturn, 1) → post v u → va_P D vwCl (wo u) H → va_D A (wo u) → va_S A s.heap H locs → cells ≤ mc → slots ≤ ms → W p l e rm s m av.toArray below meth c H locs cells slots Q (F0 m pc ls [.int v])) →
      lv_has ls maxL (lv_args 0 av) → W p l e rm s m av.toArray below meth c s.heap [] 0 0 Q (F0 m 0 ls [])) : Met l y ws rm (va_Pc av (gZ D tys sa (va_A wd sz) wd sz)) (va_Qi post (gO D wo (va_A wd sz)) (va_A wd sz)) mc ms (va_A wd sz) := by
  refine Met_ofWH (cc := cc) (maxL := maxL) (ret := some .int) (hh := hh) hy hw ?_
  intro p e s m args below meth c s₁ B hml hv
  obtain ⟨rfl, ⟨hsz, hP, hG, hD⟩, hE, hN⟩ := hv
  subst hsz
  rw [lg_entry_eq]
  exact body p e s m below meth c _ (va_A wd s.heap.size) _ ⟨B.exec, B.bytes, hml, findClass_of_methodNamed B.named, atoms_spec (ws := ws) B.pre, B.notSynchronized⟩ hP hG hD.self (fun q h => Or.inr h) hE hN
    (vx_table (x := y) B (atoms_spec (ws := ws) B.pre _ (by rw [hw]; exact List.mem_cons_self)))
    (fun H locs cells slots pc ls v u hd hp hPo hDo hS h1 h2 => W.widen h1 h2 (W.zret B.exec B.bytes B.returns rfl (fun t ht hW => ⟨⟨v, u, rfl, hp, by rw [ht]; exact hPo, hDo⟩, hS.F ht⟩) hS.2.2 hd B.notSynchronized)) (lv_entry av hlen)
/-- a body with handlers that may only make exceptions -/
theorem gH_y {kx : Int32} (hy : plainName y.cls = true) (hw : ws = Cond.codeWith y cc maxL (some .int) hh :: ws') (hlen : (lg_sl av).length ≤ maxL)
    (body : ∀ (p : Program) (e : Env) (s : State) (m : MethodId) (below : List Frame) (meth : Method) (c : Code) (Q : State → Prop) (A : Nat → Prop) (ls : Array Slot), A = (fun q => s.heap.size ≤ q) → gFx y.cls cc maxL ws p s m av.toArray meth c → va_P D vwCl wd s.heap → gG D tys s → va_D (fun _ => True) wd → (∀ q : Nat, s.heap.size ≤ q → A q) → gE sa A s s.heap → gN s → c.exceptionTable.toList = tableOf hh →
      (∀ (H : Heap) (locs : List Loc) (cells slots pc : Nat) (ls : Array Slot), decode cc pc = .ok (.ireturn, 1) → va_S A s.heap H locs → cells ≤ mc → slots ≤ ms → W p l e rm s m av.toArray below meth c H locs cells slots Q (F0 m pc ls [.int kx])) →
      lv_has ls maxL (lv_args 0 av) → W p l e rm s m av.toArray below meth c s.heap [] 0 0 Q (F0 m 0 ls [])) : Met l y ws rm (va_Pc av (gZ D tys sa (fun q => sz ≤ q) wd sz)) (va_Qi (fun (r9 : Int32) (_ : Unit) => r9 = kx) (fun _ _ => True) (fun q => sz ≤ q)) mc ms (fun q => sz ≤ q) := by
  refine Met_ofWH (cc := cc) (maxL := maxL) (ret := some .int) (hh := hh) hy hw ?_
  intro p e s m args below meth c s₁ B hml hv
  obtain ⟨rfl, ⟨hsz, hP, hG, hD⟩, hE, hN⟩ := hv
  subst hsz
  rw [lg_entry_eq]
  exact body p e s m below meth c _ (fun q => s.heap.size ≤ q) _ rfl ⟨B.exec, B.bytes, hml, findClass_of_methodNamed B.named, atoms_spec (ws := ws) B.pre, B.notSynchronized⟩ hP hG hD (fun q h => h) hE hN
    (vx_table (x := y) B (atoms_spec (ws := ws) B.pre _ (by rw [hw]; exact List.mem_cons_self)))
    (fun H locs cells slots pc ls hd hS h1 h2 => W.widen h1 h2 (W.zret B.exec B.bytes B.returns rfl (fun t ht hW => ⟨⟨kx, (), rfl, rfl, trivial⟩, hS.F ht⟩) hS.2.2 hd B.notSynchronized)) (lv_entry av hlen)
/-- a body that may change its world -/
theorem gW_z {S : Type} {post : Int32 → S → Prop} {wo : S → va_W} {ty : FieldType} (hy : plainName y.cls = true) (hw : ws = Cond.code y cc maxL (some ty) :: ws') (hlen : (lg_sl av).length ≤ maxL) (hn : ∀ v u, post v u → narrow ty (.int v) = .int v)
    (body : ∀ (p : Program) (e : Env) (s : State) (m : MethodId) (below : List Frame) (meth : Method) (c : Code) (Q : State → Prop) (A : Nat → Prop) (ls : Array Slot), gFx y.cls cc maxL ws p s m av.toArray meth c → va_P D vwCl wd s.heap → gG D tys s → va_D A wd → (∀ q : Nat, s.heap.size ≤ q → A q) → gE sa A s s.heap → gN s →
      (∀ (H : Heap) (locs : List Loc) (cells slots pc : Nat) (ls : Array Slot) (v : Int32) (u : S), decode cc pc = .ok (.ireturn, 1) → post v u → va_P D vwCl (wo u) H → va_D A (wo u) → va_S A s.heap H locs → cells ≤ mc → slots ≤ ms → W p l e rm s m av.toArray below meth c H locs cells slots Q (F0 m pc ls [.int v])) →
      lv_has ls maxL (lv_args 0 av) → W p l e rm s m av.toArray below meth c s.heap [] 0 0 Q (F0 m 0 ls [])) : Met l y ws rm (va_Pc av (gZ D tys sa (va_A wd sz) wd sz)) (va_Qi post (gO D wo (va_A wd sz)) (va_A wd sz)) mc ms (va_A wd sz) := by
  refine Met.ofW (cc := cc) (maxL := maxL) (ret := some ty) hy hw ?_
  intro p e s m args below meth c s₁ B hml hv
  obtain ⟨rfl, ⟨hsz, hP, hG, hD⟩, hE, hN⟩ := hv
  subst hsz
  rw [lg_entry_eq]
  exact body p e s m below meth c _ (va_A wd s.heap.size) _ ⟨B.exec, B.bytes, hml, findClass_of_methodNamed B.named, atoms_spec (ws := ws) B.pre, B.notSynchronized⟩ hP hG hD.self (fun q h => Or.inr h) hE hN
    (fun H locs cells slots pc ls v u hd hp hPo hDo hS h1 h2 => W.widen h1 h2 (W.zret B.exec B.bytes B.returns (hn v u hp) (fun t ht hW => ⟨⟨v, u, rfl, hp, by rw [ht]; exact hPo, hDo⟩, hS.F ht⟩) hS.2.2 hd B.notSynchronized)) (lv_entry av hlen)
/-- a body that may only make exceptions -/
theorem gW_y {kx : Int32} {ty : FieldType} (hy : plainName y.cls = true) (hw : ws = Cond.code y cc maxL (some ty) :: ws') (hlen : (lg_sl av).length ≤ maxL) (hn : narrow ty (.int kx) = .int kx)
    (body : ∀ (p : Program) (e : Env) (s : State) (m : MethodId) (below : List Frame) (meth : Method) (c : Code) (Q : State → Prop) (A : Nat → Prop) (ls : Array Slot), A = (fun q => s.heap.size ≤ q) → gFx y.cls cc maxL ws p s m av.toArray meth c → va_P D vwCl wd s.heap → gG D tys s → va_D (fun _ => True) wd → (∀ q : Nat, s.heap.size ≤ q → A q) → gE sa A s s.heap → gN s →
      (∀ (H : Heap) (locs : List Loc) (cells slots pc : Nat) (ls : Array Slot), decode cc pc = .ok (.ireturn, 1) → va_S A s.heap H locs → cells ≤ mc → slots ≤ ms → W p l e rm s m av.toArray below meth c H locs cells slots Q (F0 m pc ls [.int kx])) →
      lv_has ls maxL (lv_args 0 av) → W p l e rm s m av.toArray below meth c s.heap [] 0 0 Q (F0 m 0 ls [])) : Met l y ws rm (va_Pc av (gZ D tys sa (fun q => sz ≤ q) wd sz)) (va_Qi (fun (r9 : Int32) (_ : Unit) => r9 = kx) (fun _ _ => True) (fun q => sz ≤ q)) mc ms (fun q => sz ≤ q) := by
  refine Met.ofW (cc := cc) (maxL := maxL) (ret := some ty) hy hw ?_
  intro p e s m args below meth c s₁ B hml hv
  obtain ⟨rfl, ⟨hsz, hP, hG, hD⟩, hE, hN⟩ := hv
  subst hsz
  rw [lg_entry_eq]
  exact body p e s m below meth c _ (fun q => s.heap.size ≤ q) _ rfl ⟨B.exec, B.bytes, hml, findClass_of_methodNamed B.named, atoms_spec (ws := ws) B.pre, B.notSynchronized⟩ hP hG hD (fun q h => h) hE hN
    (fun H locs cells slots pc ls hd hS h1 h2 => W.widen h1 h2 (W.zret B.exec B.bytes B.returns hn (fun t ht hW => ⟨⟨kx, (), rfl, rfl, trivial⟩, hS.F ht⟩) hS.2.2 hd B.notSynchronized)) (lv_entry av hlen)
end GZB
