/-! what the law's act does to an object; what stays true of it; two objects that look alike -/
def dec (v cl co ro wi hi bu dx vv : Int32) : Prop :=
  (lowI (v >>> (nI 24 &&& 31)) (nI 9) = 0 ∧ cl = lowI (v >>> (nI 4 &&& 31)) (nI 4) - nI 1 ∧ co = lowI (v >>> (nI 4 &&& 31)) (nI 18) - nI 1 ∧ ro = lowI (v >>> (nI 8 &&& 31)) (nI 12) ∧ wi = lowI (v >>> (nI 12 &&& 31)) (nI 18) ∧ hi = lowI (v >>> (nI 16 &&& 31)) (nI 14) ∧ bu = lowI (v >>> (nI 6 &&& 31)) (nI 304) - nI 2 ∧ dx = lowI (v >>> (nI 20 &&& 31)) (nI 35) - nI 17 ∧ vv = lowI (v >>> (nI 20 &&& 31)) (nI 18) - nI 1) ∨
  (¬ lowI (v >>> (nI 24 &&& 31)) (nI 9) = 0 ∧ cl = lowI (v >>> (nI 4 &&& 31)) (nI 2) ∧ co = lowI (v >>> (nI 4 &&& 31)) (nI 16) ∧ ro = lowI (v >>> (nI 8 &&& 31)) (nI 12) ∧ wi = nI 1 + lowI (v >>> (nI 12 &&& 31)) (nI 16 - lowI (v >>> (nI 4 &&& 31)) (nI 16)) ∧ hi = nI 1 + lowI (v >>> (nI 16 &&& 31)) (nI 12 - lowI (v >>> (nI 8 &&& 31)) (nI 12)) ∧ bu = lowI (v >>> (nI 6 &&& 31)) (nI 120) ∧ dx = lowI (v >>> (nI 20 &&& 31)) (nI 31) - nI 15 ∧ vv = lowI (v >>> (nI 20 &&& 31)) (nI 5))
theorem dec_det {v cl co ro wi hi bu dx vv cl2 co2 ro2 wi2 hi2 bu2 dx2 vv2 : Int32} (h : dec v cl co ro wi hi bu dx vv) (h2 : dec v cl2 co2 ro2 wi2 hi2 bu2 dx2 vv2) : cl2 = cl ∧ co2 = co ∧ ro2 = ro ∧ wi2 = wi ∧ hi2 = hi ∧ bu2 = bu ∧ dx2 = dx ∧ vv2 = vv := by
  rcases h with ⟨z, rfl, rfl, rfl, rfl, rfl, rfl, rfl, rfl⟩ | ⟨z, rfl, rfl, rfl, rfl, rfl, rfl, rfl, rfl⟩
  · rcases h2 with ⟨_, rfl, rfl, rfl, rfl, rfl, rfl, rfl, rfl⟩ | ⟨y, _⟩
    · exact ⟨rfl, rfl, rfl, rfl, rfl, rfl, rfl, rfl⟩
    · exact absurd z y
  · rcases h2 with ⟨y, _⟩ | ⟨_, rfl, rfl, rfl, rfl, rfl, rfl, rfl, rfl⟩
    · exact absurd y z
    · exact ⟨rfl, rfl, rfl, rfl, rfl, rfl, rfl, rfl⟩
abbrev kop (v : Int32) : Int := (lowI v (nI 10)).toInt
abbrev jop (v : Int32) : Prop := lowI (v >>> (nI 8 &&& 31)) (nI 4) = 0
def r_op (x : ob_T) (v cl co ro wi hi bu dx vv r : Int32) (u : ob_T) : Prop :=
  (kop v = 0 ∧ jop v ∧ r_join x cl r u) ∨ (((kop v = 0 ∧ ¬ jop v) ∨ kop v = 1 ∨ kop v = 2) ∧ r_ans x cl r u) ∨ ((kop v = 3 ∨ kop v = 4) ∧ r_ask x cl bu r u) ∨ ((kop v = 5 ∨ kop v = 6) ∧ r_copy x co ro wi hi dx (lowI (v >>> (nI 9 &&& 31)) (nI 23) - nI 11) r u) ∨ ((kop v < 0 ∨ 6 < kop v) ∧ r_fill x co ro wi hi vv r u)
def r_act (x : ob_T) (v r : Int32) (u : ob_T) : Prop := ∃ cl co ro wi hi bu dx vv, dec v cl co ro wi hi bu dx vv ∧ r_op x v cl co ro wi hi bu dx vv r u
/-! what stays true -/
def good (x : ob_T) : Prop := ∀ c, c < 2 → okD (ob_L x c) ∧ (ob_J x c → cchF (ob_M x c) (ob_O x c) = ob_C x c ∧ ∀ t, t < 12 → t ∈ ob_L x c ∨ scrF (ob_M x c) (ob_S x c) t = ob_F x t)
def inv (x : ob_T) (n : Nat) : Prop := good x ∧ ob_J x 0 ∧ ob_U x = nI n
theorem draw_inv {x u : ob_T} {V : Nat → Nat → Nat} {r : Int32} {n : Nat} (h : inv x n) (hd : r_draw x V r u) : inv u n ∧ ¬ r = k99 := by
  obtain ⟨f2, h1, rfl, rfl⟩ := hd
  obtain ⟨hg, hJ, hU⟩ := h
  refine ⟨⟨fun c hc => ?_, hJ, hU⟩, k99_n (by have := sumD_le (ob_F x) f2 12; omega)⟩
  obtain ⟨g1, g2⟩ := hg c hc
  refine ⟨stlF_ok g1 12 (Nat.le_refl 12), fun hj => ?_⟩
  have hj : ob_J x c := hj
  obtain ⟨g3, g4⟩ := g2 hj
  refine ⟨g3, fun t ht => ?_⟩
  show t ∈ stlF (ob_J x c) (ob_F x) f2 (ob_L x c) 12 ∨ scrF (ob_M x c) (ob_S x c) t = f2 t
  by_cases e : ob_F x t = f2 t
  · rcases g4 t ht with z | z
    · exact Or.inl (stl_mem hj 12 (Or.inl z))
    · exact Or.inr (z.trans e)
  · exact Or.inl (stl_mem hj 12 (Or.inr ⟨ht, e⟩))
theorem fill_inv {x u : ob_T} {c r w h v ret : Int32} {n : Nat} (hi : inv x n) (hd : r_fill x c r w h v ret u) : inv u n ∧ (ret = k99 → u = x) := by
  rcases hd with ⟨-, hd⟩ | ⟨-, -, rfl⟩
  · exact ⟨(draw_inv hi hd).1, fun e => absurd e (draw_inv hi hd).2⟩
  · exact ⟨hi, fun _ => rfl⟩
theorem copy_inv {x u : ob_T} {c r w h dx dy ret : Int32} {n : Nat} (hi : inv x n) (hd : r_copy x c r w h dx dy ret u) : inv u n ∧ (ret = k99 → u = x) := by
  rcases hd with ⟨-, hd⟩ | ⟨-, -, rfl⟩
  · exact ⟨(draw_inv hi hd).1, fun e => absurd e (draw_inv hi hd).2⟩
  · exact ⟨hi, fun _ => rfl⟩
theorem join_inv {x u : ob_T} {i ret : Int32} {n : Nat} (h : inv x n) (hd : r_join x i ret u) : inv u n ∧ (ret = k99 → u = x) := by
  rcases hd with ⟨j, f2, hj, -, h0, rfl, rfl⟩ | ⟨-, -, rfl⟩
  · obtain ⟨hg, hJ, hU⟩ := h
    refine ⟨⟨fun c hc => ?_, ?_, hU⟩, fun e => absurd e (k99_n (by decide))⟩
    · show okD (upC j (List.range 12) (ob_L x) c) ∧ (upC j True (ob_J x) c → cchF (upC j [] (ob_M x) c) (upC j [] (ob_O x) c) = upC j [] (ob_C x) c ∧ ∀ t, t < 12 → t ∈ upC j (List.range 12) (ob_L x) c ∨ scrF (upC j [] (ob_M x) c) (upC j f2 (ob_S x) c) t = ob_F x t)
      by_cases e : c = j
      · subst e
        rw [upC_s hc, upC_s hc, upC_s hc, upC_s hc, upC_s hc, upC_s hc]
        exact ⟨okD_range, fun _ => ⟨rfl, fun t ht => Or.inl (List.mem_range.mpr ht)⟩⟩
      · rw [upC_n hj hc e, upC_n hj hc e, upC_n hj hc e, upC_n hj hc e, upC_n hj hc e, upC_n hj hc e]
        exact hg c hc
    · show upC j True (ob_J x) 0
      by_cases e : 0 = j
      · subst e; exact trivial
      · rw [upC_n hj (by decide) e]; exact hJ
  · exact ⟨h, fun _ => rfl⟩
theorem ans_inv {x u : ob_T} {i ret : Int32} {n : Nat} (h : inv x n) (hd : r_ans x i ret u) : inv u n ∧ (ret = k99 → u = x) := by
  rcases hd with ⟨j, ⟨hj, -, hJj, h0⟩, rfl, h12, rfl⟩ | ⟨-, -, rfl⟩
  · obtain ⟨hg, hJ, hU⟩ := h
    refine ⟨⟨fun c hc => ?_, hJ, hU⟩, fun e => absurd e (k99_n (by omega))⟩
    show okD (ob_L x c) ∧ (ob_J x c → cchF (upC j [] (ob_M x) c) (upC j (cchF (ob_M x j) (ob_O x j)) (ob_O x) c) = ob_C x c ∧ ∀ t, t < 12 → t ∈ ob_L x c ∨ scrF (upC j [] (ob_M x) c) (upC j (scrF (ob_M x j) (ob_S x j)) (ob_S x) c) t = ob_F x t)
    by_cases e : c = j
    · subst e
      rw [upC_s hc, upC_s hc, upC_s hc]
      exact hg c hc
    · rw [upC_n hj hc e, upC_n hj hc e, upC_n hj hc e]
      exact hg c hc
  · exact ⟨h, fun _ => rfl⟩
theorem ask_step {x : ob_T} (hg : good x) {j b : Nat} (hj : j < 2) (h0 : (ob_M x j).length = 0) {L2 : List Nat} {M2 : List (Nat × Int64)} {C2 : List Int64} {b2 : Nat} {w2 : Nat → Int32} (he : askF (ob_F x) (ob_L x j) [] (ob_C x j) b (ob_W x) = (L2, M2, C2, b2, w2)) :
    okD L2 ∧ (ob_J x j → cchF M2 (ob_O x j) = C2 ∧ ∀ t, t < 12 → t ∈ L2 ∨ scrF M2 (ob_S x j) t = ob_F x t) := by
  obtain ⟨g1, g2⟩ := hg j hj
  obtain ⟨D, h1, h2, h3, h4⟩ := ask_inv (ob_F x) (ob_L x j) [] (ob_C x j) b (ob_W x)
  rw [he] at h1 h2 h3
  have h1 : M2 = D := h1
  have h2 : C2 = cchF D (ob_C x j) := h2
  have h3 : ob_L x j = D.map Prod.fst ++ L2 := h3
  subst h1
  have hm : ob_M x j = [] := List.eq_nil_of_length_eq_zero h0
  refine ⟨⟨?_, fun d hd => g1.2 d (by rw [h3]; exact List.mem_append_right _ hd)⟩, fun hJ => ?_⟩
  · have := g1.1
    rw [h3] at this
    exact this.sublist (List.sublist_append_right _ _)
  · obtain ⟨g3, g4⟩ := g2 hJ
    rw [hm] at g3 g4
    have g3 : ob_O x j = ob_C x j := g3
    refine ⟨by rw [g3, h2], fun t ht => ?_⟩
    obtain ⟨s1, s2⟩ := scr_in (s := ob_F x) M2 (ob_S x j) t h4
    by_cases c : t ∈ M2.map Prod.fst
    · exact Or.inr (s1 c)
    · rcases g4 t ht with z | z
      · rw [h3] at z
        rcases List.mem_append.mp z with z | z
        · exact absurd z c
        · exact Or.inl z
      · exact Or.inr ((s2 c).trans z)
theorem ask_inv2 {x u : ob_T} {i b ret : Int32} {n : Nat} (h : inv x n) (hd : r_ask x i b ret u) : (∃ d, d ≤ 300 ∧ inv u (n + d)) ∧ (ret = k99 → u = x) := by
  rcases hd with ⟨j, k, L2, M2, C2, b2, w2, ⟨hj, -, hk, -, hJj, h0⟩, he, hb, rfl, h12, rfl⟩ | ⟨-, -, rfl⟩
  · obtain ⟨hg, hJ, hU⟩ := h
    refine ⟨⟨k - b2, by omega, fun c hc => ?_, hJ, ?_⟩, fun e => absurd e (k99_n (by omega))⟩
    · show okD (upC j L2 (ob_L x) c) ∧ (ob_J x c → cchF (upC j M2 (ob_M x) c) (ob_O x c) = upC j C2 (ob_C x) c ∧ ∀ t, t < 12 → t ∈ upC j L2 (ob_L x) c ∨ scrF (upC j M2 (ob_M x) c) (ob_S x c) t = ob_F x t)
      by_cases e : c = j
      · subst e
        rw [upC_s hc, upC_s hc, upC_s hc]
        exact ask_step hg hc h0 he
      · rw [upC_n hj hc e, upC_n hj hc e, upC_n hj hc e]
        exact hg c hc
    · show ob_U x + nI (k - b2) = nI (n + (k - b2))
      rw [hU, nI_add]
  · exact ⟨⟨0, Nat.zero_le _, h⟩, fun _ => rfl⟩
theorem act_inv {x u : ob_T} {v ret : Int32} {n : Nat} (h : inv x n) (hd : r_act x v ret u) : (∃ d, d ≤ 300 ∧ inv u (n + d)) ∧ (ret = k99 → u = x) := by
  obtain ⟨cl, co, ro, wi, hi, bu, dx, vv, -, hd⟩ := hd
  rcases hd with ⟨-, -, hd⟩ | ⟨-, hd⟩ | ⟨-, hd⟩ | ⟨-, hd⟩ | ⟨-, hd⟩
  · exact ⟨⟨0, Nat.zero_le _, (join_inv h hd).1⟩, (join_inv h hd).2⟩
  · exact ⟨⟨0, Nat.zero_le _, (ans_inv h hd).1⟩, (ans_inv h hd).2⟩
  · exact ask_inv2 h hd
  · exact ⟨⟨0, Nat.zero_le _, (copy_inv h hd).1⟩, (copy_inv h hd).2⟩
  · exact ⟨⟨0, Nat.zero_le _, (fill_inv h hd).1⟩, (fill_inv h hd).2⟩
/-! two objects that look alike -/
def eqs (x y : ob_T) : Prop := (∀ k, k < 12 → ob_F x k = ob_F y k) ∧ ob_U x = ob_U y ∧ ob_W x = ob_W y ∧ ∀ c, c < 2 → ob_J x c = ob_J y c ∧ ob_L x c = ob_L y c ∧ (∀ k, k < 12 → ob_S x c k = ob_S y c k) ∧ ob_O x c = ob_O y c ∧ ob_C x c = ob_C y c ∧ ob_M x c = ob_M y c
theorem draw_det {x y u z : ob_T} (h : eqs x y) {V W : Nat → Nat → Nat} (hV : ∀ c r, c < 16 → r < 12 → V c r = W c r) {r s : Int32} (h1 : r_draw x V r u) (h2 : r_draw y W s z) : r = s ∧ eqs u z := by
  obtain ⟨f, a1, rfl, rfl⟩ := h1
  obtain ⟨g, b1, rfl, rfl⟩ := h2
  have e := gD_same a1 b1 hV
  obtain ⟨e1, e2, e3, e4⟩ := h
  refine ⟨congrArg nI (sumD_cong2 e1 e 12 (Nat.le_refl 12)), e, e2, e3, fun c hc => ?_⟩
  obtain ⟨c1, c2, c3, c4, c5, c6⟩ := e4 c hc
  refine ⟨c1, ?_, c3, c4, c5, c6⟩
  show stlF (ob_J x c) (ob_F x) f (ob_L x c) 12 = stlF (ob_J y c) (ob_F y) g (ob_L y c) 12
  rw [c1, c2]
  exact stlF_cong2 e1 e 12 (Nat.le_refl 12)
theorem fill_det {x y u z : ob_T} (h : eqs x y) {c r w i v a b : Int32} (h1 : r_fill x c r w i v a u) (h2 : r_fill y c r w i v b z) : a = b ∧ eqs u z := by
  rcases h1 with ⟨g, h1⟩ | ⟨g, rfl, rfl⟩
  · rcases h2 with ⟨_, h2⟩ | ⟨g2, _⟩
    · refine draw_det h (fun c' r' hc hr => ?_) h1 h2
      show (if _ then _ else at2 (ob_F x) c' r') = (if _ then _ else at2 (ob_F y) c' r')
      rw [at2_cong h.1 hc hr]
    · exact absurd g g2
  · rcases h2 with ⟨g2, _⟩ | ⟨_, rfl, rfl⟩
    · exact absurd g2 g
    · exact ⟨rfl, h⟩
theorem copy_det {x y u z : ob_T} (h : eqs x y) {c r w i dx dy a b : Int32} (h1 : r_copy x c r w i dx dy a u) (h2 : r_copy y c r w i dx dy b z) : a = b ∧ eqs u z := by
  rcases h1 with ⟨g, h1⟩ | ⟨g, rfl, rfl⟩
  · rcases h2 with ⟨_, h2⟩ | ⟨g2, _⟩
    · refine draw_det h (fun c' r' hc hr => ?_) h1 h2
      obtain ⟨n1, n2, n3, n4, rfl, rfl, rfl, rfl, b1, b2, b3, b4⟩ := box_nat g.1
      rw [cN_nI (by omega), cN_nI (by omega), cN_nI (by omega), cN_nI (by omega)]
      unfold finC
      by_cases q : (n1 : Int) ≤ c' - dx.toInt ∧ c' - dx.toInt < n1 + n3 ∧ n2 ≤ r' - dy.toInt ∧ r' - dy.toInt < n2 + n4
      · rw [if_pos q, if_pos q]
        exact at2_cong h.1 (by omega) (by omega)
      · rw [if_neg q, if_neg q]
        exact at2_cong h.1 hc hr
    · exact absurd g g2
  · rcases h2 with ⟨g2, _⟩ | ⟨_, rfl, rfl⟩
    · exact absurd g2 g
    · exact ⟨rfl, h⟩
theorem join_det {x y u z : ob_T} (h : eqs x y) {i a b : Int32} (h1 : r_join x i a u) (h2 : r_join y i b z) : a = b ∧ eqs u z := by
  rcases h1 with ⟨j, f, hj, rfl, hf, rfl, rfl⟩ | ⟨g, rfl, rfl⟩
  · rcases h2 with ⟨k, f2, hk, ek, hf2, rfl, rfl⟩ | ⟨g2, _⟩
    · have e := ix_eq hj hk ek
      subst e
      obtain ⟨e1, e2, e3, e4⟩ := h
      refine ⟨rfl, e1, e2, e3, fun c hc => ?_⟩
      show upC j True (ob_J x) c = upC j True (ob_J y) c ∧ upC j (List.range 12) (ob_L x) c = upC j (List.range 12) (ob_L y) c ∧ (∀ k, k < 12 → upC j f (ob_S x) c k = upC j f2 (ob_S y) c k) ∧ upC j [] (ob_O x) c = upC j [] (ob_O y) c ∧ upC j [] (ob_C x) c = upC j [] (ob_C y) c ∧ upC j [] (ob_M x) c = upC j [] (ob_M y) c
      by_cases e : c = j
      · subst e
        rw [upC_s hc, upC_s hc, upC_s hc, upC_s hc, upC_s hc, upC_s hc, upC_s hc, upC_s hc, upC_s hc, upC_s hc, upC_s hc, upC_s hc]
        exact ⟨rfl, rfl, fun k hk => (hf k hk).trans (hf2 k hk).symm, rfl, rfl, rfl⟩
      · rw [upC_n hj hc e, upC_n hj hc e, upC_n hj hc e, upC_n hj hc e, upC_n hj hc e, upC_n hj hc e, upC_n hj hc e, upC_n hj hc e, upC_n hj hc e, upC_n hj hc e, upC_n hj hc e, upC_n hj hc e]
        exact e4 c hc
    · exact absurd ⟨j, hj, rfl⟩ g2
  · rcases h2 with ⟨k, _, hk, ek, _⟩ | ⟨_, rfl, rfl⟩
    · exact absurd ⟨k, hk, ek⟩ g
    · exact ⟨rfl, h⟩
theorem g_ans_tr {x y : ob_T} (h : eqs x y) {i : Int32} {j : Nat} (g : g_ans x i j) : g_ans y i j := by
  obtain ⟨h1, h2, h3, h4⟩ := g
  obtain ⟨c1, c2, c3, c4, c5, c6⟩ := h.2.2.2 j h1
  exact ⟨h1, h2, by rw [← c1]; exact h3, by rw [← c6]; exact h4⟩
theorem g_ask_tr {x y : ob_T} (h : eqs x y) {i b : Int32} {j n : Nat} (g : g_ask x i b j n) : g_ask y i b j n := by
  obtain ⟨h1, h2, h3, h4, h5, h6⟩ := g
  obtain ⟨c1, c2, c3, c4, c5, c6⟩ := h.2.2.2 j h1
  exact ⟨h1, h2, h3, h4, by rw [← c1]; exact h5, by rw [← c6]; exact h6⟩
theorem eqs_sym {x y : ob_T} (h : eqs x y) : eqs y x := ⟨fun k hk => (h.1 k hk).symm, h.2.1.symm, h.2.2.1.symm, fun c hc => by
  obtain ⟨c1, c2, c3, c4, c5, c6⟩ := h.2.2.2 c hc
  exact ⟨c1.symm, c2.symm, fun k hk => (c3 k hk).symm, c4.symm, c5.symm, c6.symm⟩⟩
theorem ans_det {x y u z : ob_T} (h : eqs x y) {i a b : Int32} (h1 : r_ans x i a u) (h2 : r_ans y i b z) : a = b ∧ eqs u z := by
  rcases h1 with ⟨j, g, rfl, -, rfl⟩ | ⟨g, rfl, rfl⟩
  · rcases h2 with ⟨k, g2, rfl, -, rfl⟩ | ⟨g2, _⟩
    · have e := ix_eq g.1 g2.1 (g.2.1.symm.trans g2.2.1)
      subst e
      have hj := g.1
      obtain ⟨e1, e2, e3, e4⟩ := h
      obtain ⟨d1, d2, d3, d4, d5, d6⟩ := e4 j hj
      refine ⟨by rw [d6], e1, e2, e3, fun c hc => ?_⟩
      show ob_J x c = ob_J y c ∧ ob_L x c = ob_L y c ∧ (∀ k, k < 12 → upC j (scrF (ob_M x j) (ob_S x j)) (ob_S x) c k = upC j (scrF (ob_M y j) (ob_S y j)) (ob_S y) c k) ∧ upC j (cchF (ob_M x j) (ob_O x j)) (ob_O x) c = upC j (cchF (ob_M y j) (ob_O y j)) (ob_O y) c ∧ ob_C x c = ob_C y c ∧ upC j [] (ob_M x) c = upC j [] (ob_M y) c
      by_cases e : c = j
      · subst e
        rw [upC_s hc, upC_s hc, upC_s hc, upC_s hc, upC_s hc, upC_s hc]
        exact ⟨d1, d2, fun k hk => by rw [d6]; exact scr_cong _ _ _ d3 k hk, by rw [d6, d4], d5, rfl⟩
      · rw [upC_n hj hc e, upC_n hj hc e, upC_n hj hc e, upC_n hj hc e, upC_n hj hc e, upC_n hj hc e]
        exact e4 c hc
    · exact absurd ⟨j, g_ans_tr h g⟩ g2
  · rcases h2 with ⟨k, g2, _⟩ | ⟨_, rfl, rfl⟩
    · exact absurd ⟨k, g_ans_tr (eqs_sym h) g2⟩ g
    · exact ⟨rfl, h⟩
theorem ask_det {x y u z : ob_T} (hd : good x) (h : eqs x y) {i q a b : Int32} (h1 : r_ask x i q a u) (h2 : r_ask y i q b z) : a = b ∧ eqs u z := by
  rcases h1 with ⟨j, n, L2, M2, C2, b2, w2, g, he, -, rfl, -, rfl⟩ | ⟨g, rfl, rfl⟩
  · rcases h2 with ⟨k, n9, L9, M9, C9, b9, w9, g2, he9, -, rfl, -, rfl⟩ | ⟨g2, _⟩
    · have e := ix_eq g.1 g2.1 (g.2.1.symm.trans g2.2.1)
      subst e
      have en : n = n9 := nI_inj (by have := g.2.2.1; omega) (by have := g2.2.2.1; omega) (g.2.2.2.1.symm.trans g2.2.2.2.1)
      subst en
      have hj := g.1
      have hok := (hd j hj).1
      obtain ⟨e1, e2, e3, e4⟩ := h
      obtain ⟨d1, d2, d3, d4, d5, d6⟩ := e4 j hj
      rw [askF_cong _ _ _ _ _ (fun d hd9 => e1 d (hok.2 d hd9)), d2, d5, e3, he9] at he
      simp only [Prod.mk.injEq] at he
      obtain ⟨rfl, rfl, rfl, rfl, rfl⟩ := he
      refine ⟨rfl, e1, by show ob_U x + _ = ob_U y + _; rw [e2], rfl, fun c hc => ?_⟩
      show ob_J x c = ob_J y c ∧ upC j L9 (ob_L x) c = upC j L9 (ob_L y) c ∧ (∀ k, k < 12 → ob_S x c k = ob_S y c k) ∧ ob_O x c = ob_O y c ∧ upC j C9 (ob_C x) c = upC j C9 (ob_C y) c ∧ upC j M9 (ob_M x) c = upC j M9 (ob_M y) c
      by_cases e : c = j
      · subst e
        rw [upC_s hc, upC_s hc, upC_s hc, upC_s hc, upC_s hc, upC_s hc]
        exact ⟨d1, rfl, d3, d4, rfl, rfl⟩
      · rw [upC_n hj hc e, upC_n hj hc e, upC_n hj hc e, upC_n hj hc e, upC_n hj hc e, upC_n hj hc e]
        exact e4 c hc
    · exact absurd ⟨j, n, g_ask_tr h g⟩ g2
  · rcases h2 with ⟨k, n, _, _, _, _, _, g2, _⟩ | ⟨_, rfl, rfl⟩
    · exact absurd ⟨k, n, g_ask_tr (eqs_sym h) g2⟩ g
    · exact ⟨rfl, h⟩
theorem act_det {x y u z : ob_T} (hd : good x) (h : eqs x y) {v a b : Int32} (h1 : r_act x v a u) (h2 : r_act y v b z) : a = b ∧ eqs u z := by
  obtain ⟨cl, co, ro, wi, hi, bu, dx, vv, hd1, h1⟩ := h1
  obtain ⟨cl2, co2, ro2, wi2, hi2, bu2, dx2, vv2, hd2, h2⟩ := h2
  obtain ⟨rfl, rfl, rfl, rfl, rfl, rfl, rfl, rfl⟩ := dec_det hd1 hd2
  rcases h1 with ⟨k1, j1, h1⟩ | ⟨k1, h1⟩ | ⟨k1, h1⟩ | ⟨k1, h1⟩ | ⟨k1, h1⟩ <;> rcases h2 with ⟨k2, j2, h2⟩ | ⟨k2, h2⟩ | ⟨k2, h2⟩ | ⟨k2, h2⟩ | ⟨k2, h2⟩
  · exact join_det h h1 h2
  · rcases k2 with ⟨_, k2⟩ | k2
    · exact absurd j1 k2
    · exfalso; omega
  · exfalso; omega
  · exfalso; omega
  · exfalso; omega
  · rcases k1 with ⟨_, k1⟩ | k1
    · exact absurd j2 k1
    · exfalso; omega
  · exact ans_det h h1 h2
  · exfalso; rcases k1 with ⟨k1, _⟩ | k1 <;> omega
  · exfalso; rcases k1 with ⟨k1, _⟩ | k1 <;> omega
  · exfalso; rcases k1 with ⟨k1, _⟩ | k1 <;> omega
  · exfalso; omega
  · exfalso; rcases k2 with ⟨k2, _⟩ | k2 <;> omega
  · exact ask_det hd h h1 h2
  · exfalso; omega
  · exfalso; omega
  · exfalso; omega
  · exfalso; rcases k2 with ⟨k2, _⟩ | k2 <;> omega
  · exfalso; omega
  · exact copy_det h h1 h2
  · exfalso; omega
  · exfalso; omega
  · exfalso; rcases k2 with ⟨k2, _⟩ | k2 <;> omega
  · exfalso; omega
  · exfalso; omega
  · exact fill_det h h1 h2
theorem unl_eq {x y : ob_T} (h : eqs x y) {j : Nat} (hj : j < 2) : o_unl x j = o_unl y j := by
  obtain ⟨d1, d2, d3, d4, d5, d6⟩ := h.2.2.2 j hj
  unfold o_unl
  by_cases hJ : ob_J x j
  · rw [if_pos hJ, if_pos (by rw [← d1]; exact hJ), sumD_cong2 d3 h.1 12 (Nat.le_refl 12)]
  · rw [if_neg hJ, if_neg (by rw [← d1]; exact hJ)]
/-! a client asks for all, and answers -/
theorem ans_0 {x u : ob_T} {n : Nat} (h : inv x n) {r : Int32} (hr : r_ans x (nI 0) r u) : inv u n ∧ (ob_M u 0).length = 0 ∧ ob_O u 0 = ob_C u 0 ∧ ¬ r = 0 ∧ ob_L u 0 = ob_L x 0 ∧ (∀ t, t < 12 → t ∈ ob_L u 0 ∨ ob_S u 0 t = ob_F u t) ∧ ((ob_M x 0).length = 0 → r = k99) ∧ (0 < (ob_M x 0).length → r = nI (ob_M x 0).length) := by
  have hi := (ans_inv h hr).1
  have hgo := fun (hm : ob_M u 0 = []) => (hi.1 0 (by decide)).2 hi.2.1
  rcases hr with ⟨j, ⟨hj, ej, hJj, h0⟩, rfl, h12, rfl⟩ | ⟨g, rfl, rfl⟩
  · have e : j = 0 := (ix_eq (by decide) hj ej).symm
    subst e
    have hm : ob_M (ob_F x, ob_U x, ob_W x, ob_J x, ob_L x, upC 0 (scrF (ob_M x 0) (ob_S x 0)) (ob_S x), upC 0 (cchF (ob_M x 0) (ob_O x 0)) (ob_O x), ob_C x, upC 0 [] (ob_M x)) 0 = [] := rfl
    obtain ⟨g1, g2⟩ := hgo hm
    refine ⟨hi, rfl, g1, nI_ne0 (by omega) (by omega), rfl, g2, fun z => absurd z (by omega), fun _ => rfl⟩
  · have hl : (ob_M u 0).length = 0 := by
      rcases Nat.eq_zero_or_pos (ob_M u 0).length with z | z
      · exact z
      · exact absurd ⟨0, by decide, rfl, h.2.1, z⟩ g
    have hm : ob_M u 0 = [] := List.eq_nil_of_length_eq_zero hl
    obtain ⟨g1, g2⟩ := hgo hm
    rw [hm] at g1 g2
    exact ⟨hi, hl, g1, by decide, rfl, g2, fun _ => rfl, fun z => absurd z (by omega)⟩
theorem ask_0 {x : ob_T} {n : Nat} (h : inv x n) (h0 : (ob_M x 0).length = 0) {L2 : List Nat} {M2 : List (Nat × Int64)} {C2 : List Int64} {b2 : Nat} {w2 : Nat → Int32} (he : askF (ob_F x) (ob_L x 0) [] (ob_C x 0) 300 (ob_W x) = (L2, M2, C2, b2, w2)) :
    L2 = [] ∧ M2.length = (ob_L x 0).length ∧ 2 * (ob_L x 0).length ≤ 300 - b2 ∧ 300 - b2 ≤ 17 * (ob_L x 0).length ∧ (ob_L x 0).length ≤ 12 ∧ b2 ≤ 300 ∧
    r_ask x (nI 0) (nI 300) (nI M2.length) (ob_F x, ob_U x + nI (300 - b2), w2, ob_J x, upC 0 L2 (ob_L x), ob_S x, ob_O x, upC 0 C2 (ob_C x), upC 0 M2 (ob_M x)) ∧ inv (ob_F x, ob_U x + nI (300 - b2), w2, ob_J x, upC 0 L2 (ob_L x), ob_S x, ob_O x, upC 0 C2 (ob_C x), upC 0 M2 (ob_M x)) (n + (300 - b2)) := by
  have hl := okD_len (h.1 0 (by decide)).1
  obtain ⟨M9, C9, b9, w9, e, h1, h2, h3⟩ := ask_all (ob_F x) (ob_L x 0) [] (ob_C x 0) 300 (ob_W x) (by omega)
  have he0 := he
  rw [e] at he
  simp only [Prod.mk.injEq] at he
  obtain ⟨rfl, rfl, rfl, rfl, rfl⟩ := he
  rw [List.length_nil, Nat.zero_add] at h1
  have hr : r_ask x (nI 0) (nI 300) (nI M9.length) (ob_F x, ob_U x + nI (300 - b9), w9, ob_J x, upC 0 [] (ob_L x), ob_S x, ob_O x, upC 0 C9 (ob_C x), upC 0 M9 (ob_M x)) := Or.inl ⟨0, 300, [], M9, C9, b9, w9, ⟨by decide, rfl, Nat.le_refl _, rfl, h.2.1, h0⟩, he0, by omega, rfl, by omega, rfl⟩
  refine ⟨rfl, h1, by omega, by omega, hl, by omega, hr, ?_⟩
  obtain ⟨hg, hJ, hU⟩ := h
  refine ⟨fun c hc => ?_, hJ, by show ob_U x + nI (300 - b9) = nI (n + (300 - b9)); rw [hU, nI_add]⟩
  show okD (upC 0 [] (ob_L x) c) ∧ (ob_J x c → cchF (upC 0 M9 (ob_M x) c) (ob_O x c) = upC 0 C9 (ob_C x) c ∧ ∀ t, t < 12 → t ∈ upC 0 [] (ob_L x) c ∨ scrF (upC 0 M9 (ob_M x) c) (ob_S x c) t = ob_F x t)
  rcases (show c = 0 ∨ c = 1 by omega) with rfl | rfl
  · exact ask_step hg (by decide) h0 he0
  · exact hg 1 (by decide)
def r_show (x u : ob_T) : Prop := ∃ x1 x2 a b c, r_ans x (nI 0) a x1 ∧ r_ask x1 (nI 0) (nI 300) b x2 ∧ r_ans x2 (nI 0) c u
theorem show_inv {x u : ob_T} {n : Nat} (h : inv x n) (hs : r_show x u) : ∃ d, d ≤ 300 ∧ inv u (n + d) := by
  obtain ⟨x1, x2, a, b, c, h1, h2, h3⟩ := hs
  obtain ⟨⟨d, hd, h4⟩, -⟩ := ask_inv2 (ans_inv h h1).1 h2
  exact ⟨d, hd, (ans_inv h4 h3).1⟩
theorem show_det {x y u z : ob_T} {n : Nat} (hi : inv x n) (h : eqs x y) (h1 : r_show x u) (h2 : r_show y z) : eqs u z := by
  obtain ⟨x1, x2, a, b, c, p1, p2, p3⟩ := h1
  obtain ⟨y1, y2, a9, b9, c9, q1, q2, q3⟩ := h2
  have e1 := (ans_det h p1 q1).2
  have e2 := (ask_det (ans_inv hi p1).1.1 e1 p2 q2).2
  exact (ans_det e2 p3 q3).2
