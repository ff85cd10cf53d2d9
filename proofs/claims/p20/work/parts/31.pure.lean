/-! the law's numbers -/
def lowI (x n : Int32) : Int32 := (x &&& nI 2147483647) - (x &&& nI 2147483647) / n * n
theorem low_nat (x : Int32) : ∃ k, k < 2 ^ 31 ∧ x &&& nI 2147483647 = nI k := by
  refine nI_of (fun h => ?_)
  have h1 := (fa_lt _ _).mp h
  have e : (x &&& nI 2147483647).toBitVec.msb = false := by
    rw [Int32.toBitVec_and, BitVec.msb_and, show (nI 2147483647).toBitVec.msb = false from by decide, Bool.and_false]
  have h2 : (x &&& nI 2147483647).toInt = ((x &&& nI 2147483647).toBitVec.toNat : Int) := BitVec.toInt_eq_toNat_of_msb e
  rw [h2, show (0 : Int32).toInt = 0 from rfl] at h1
  omega
theorem low_rng {x : Int32} {n : Nat} (h0 : 0 < n) (hn : n < 2 ^ 31) : ∃ k, k < n ∧ lowI x (nI n) = nI k := by
  obtain ⟨k, hk, e⟩ := low_nat x
  refine ⟨k % n, Nat.mod_lt _ h0, ?_⟩
  unfold lowI
  rw [e, pk_rem hk h0 hn]
theorem low_le15 (x : Int32) : lowI x (nI 16) ≤ nI 15 := by
  obtain ⟨k, hk, e⟩ := low_rng (x := x) (n := 16) (by decide) (by decide)
  rw [e]
  exact nI_le (by omega) (by decide)
theorem low_ne {x : Int32} {n : Nat} (h0 : 0 < n) (hn : n < 2 ^ 31) : ¬ nI n - lowI x (nI n) = 0 := by
  obtain ⟨k, hk, e⟩ := low_rng (x := x) h0 hn
  rw [e, pk_sub (by omega)]
  exact nI_ne0 (by omega) (by omega)
/-! dirty tiles, each once -/
def metD (L : List Nat) : Nat → Nat
  | 0 => 0
  | i + 1 => metD L i ||| 2 ^ (L.getD i 0)
theorem metD_bit (L : List Nat) (b : Nat) : ∀ i, (metD L i).testBit b = true → ∃ j, j < i ∧ L.getD j 0 = b
  | 0, h => by rw [show metD L 0 = 0 from rfl, Nat.zero_testBit] at h; cases h
  | i + 1, h => by
    rw [show metD L (i + 1) = metD L i ||| 2 ^ (L.getD i 0) from rfl, fb_bit_set, Bool.or_eq_true] at h
    rcases h with h | h
    · obtain ⟨j, h1, h2⟩ := metD_bit L b i h
      exact ⟨j, by omega, h2⟩
    · exact ⟨i, Nat.lt_succ_self i, (of_decide_eq_true h).symm⟩
theorem metD_lt {L : List Nat} (h : okD L) : ∀ i, i ≤ L.length → metD L i < 4096
  | 0, _ => show (0 : Nat) < 4096 by decide
  | i + 1, hi => by
    have h1 : metD L i < 2 ^ 12 := metD_lt h i (by omega)
    have h2 : 2 ^ (L.getD i 0) < 2 ^ 12 := Nat.pow_lt_pow_right (by decide) (okD_get h (by omega))
    exact Nat.or_lt_two_pow h1 h2
theorem okD_inj {L : List Nat} (h : okD L) {i j : Nat} (hij : i < j) (hj : j < L.length) : L.getD i 0 ≠ L.getD j 0 := by
  have hi : i < L.length := by omega
  have h1 : L.getD i 0 = L[i] := by rw [List.getD_eq_getElem?_getD, List.getElem?_eq_getElem hi]; rfl
  have h2 : L.getD j 0 = L[j] := by rw [List.getD_eq_getElem?_getD, List.getElem?_eq_getElem hj]; rfl
  rw [h1, h2]
  exact List.pairwise_iff_getElem.mp h.1 i j hi hj hij
theorem metD_no {L : List Nat} (h : okD L) {i : Nat} (hi : i < L.length) : (metD L i).testBit (L.getD i 0) = false := by
  cases e : (metD L i).testBit (L.getD i 0) with
  | false => rfl
  | true =>
    obtain ⟨j, h1, h2⟩ := metD_bit L _ i e
    exact absurd h2 (okD_inj h h1 hi)
theorem sh12 : ∀ t, t < 12 → ((nI t &&& 31).toBitVec.smod 32).toNat = t := by decide +kernel
theorem metD_z {L : List Nat} (h : okD L) {i : Nat} (hi : i < L.length) : nI (metD L i) >>> (nI (L.getD i 0) &&& 31) &&& nI 1 = nI 0 := by
  have hl := metD_lt h i (by omega)
  have hb := metD_no h hi
  rw [pk_shrN (by omega) _ _ (sh12 _ (okD_get h hi)), fa_and, Nat.and_one_is_mod]
  rw [Nat.testBit_eq_decide_div_mod_eq] at hb
  have h2 : ¬ metD L i / 2 ^ L.getD i 0 % 2 = 1 := of_decide_eq_false hb
  rw [show metD L i / 2 ^ L.getD i 0 % 2 = 0 from by omega]
theorem metD_s {L : List Nat} {i : Nat} : nI (metD L i) ||| nI (2 ^ L.getD i 0) = nI (metD L (i + 1)) := fa_or _ _
/-! a tile's ways -/
theorem popN_0 : popN 0 = 0 := by decide +kernel
theorem met_run (x : Int64) : ∀ i, popN (metN x (i + 1)) ≤ runF x i
  | 0 => by
    show popN (0 ||| 2 ^ cel x 0) ≤ 1
    rw [popN_or (cel_lt x 0), popN_0]
    split <;> omega
  | i + 1 => by
    have h := met_run x i
    show popN (metN x (i + 1) ||| 2 ^ cel x (i + 1)) ≤ runF x i + if cel x (i + 1) = cel x i then 0 else 1
    rw [popN_or (cel_lt x (i + 1))]
    by_cases e : cel x (i + 1) = cel x i
    · have hb : (metN x (i + 1)).testBit (cel x (i + 1)) = true := by
        rw [show metN x (i + 1) = metN x i ||| 2 ^ cel x i from rfl, fb_bit_set, e]; simp
      rw [if_pos hb]
      omega
    · rw [if_neg e]
      split <;> omega
theorem col_run (x : Int64) : nCol x ≤ nRun x := met_run x 15
theorem run_pos (x : Int64) : ∀ i, 1 ≤ runF x i
  | 0 => Nat.le_refl _
  | i + 1 => by have := run_pos x i; unfold runF; omega
/-- the units that the law expects of colours -/
def ubL (n : Nat) : Nat := if n = 1 then 3 else if n = 2 then 10 else if n = 3 then 15 else if n = 4 then 16 else 17
theorem cw_ok (u0 u1 u2 u3 : Nat) (u : Nat → Nat) (h0 : u 0 = u0) (h1 : u 1 = u1) (h2 : u 2 = u2) (h3 : u 3 = u3) (h4 : u 4 = 17) (z0 : u0 = 2 ∨ u0 = 99) (z1 : u1 = 3 ∨ u1 = 99) (z2 : 10 ≤ u2 ∧ u2 ≤ 99) (z3 : 3 ≤ u3 ∧ u3 ≤ 33) :
    (u0 = 2 → cwF u 5 = (0, 2)) ∧ (u0 = 99 → (cwF u 5).2 = min (min u1 u2) (min u3 17) ∧ 1 ≤ (cwF u 5).1 ∧ (cwF u 5).1 ≤ 4 ∧ ((cwF u 5).1 = 1 → u1 = 3) ∧ ((cwF u 5).1 = 3 → (cwF u 5).2 = u3)) := by
  have e1 : cwF u 1 = if u0 < 99 then (0, u0) else (0, 99) := by show (if u 0 < 99 then (0, u 0) else (0, 99)) = _; rw [h0]
  have e2 : cwF u 2 = if u1 < (cwF u 1).2 then (1, u1) else cwF u 1 := by show (if u 1 < (cwF u 1).2 then (1, u 1) else cwF u 1) = _; rw [h1]
  have e3 : cwF u 3 = if u2 < (cwF u 2).2 then (2, u2) else cwF u 2 := by show (if u 2 < (cwF u 2).2 then (2, u 2) else cwF u 2) = _; rw [h2]
  have e4 : cwF u 4 = if u3 < (cwF u 3).2 then (3, u3) else cwF u 3 := by show (if u 3 < (cwF u 3).2 then (3, u 3) else cwF u 3) = _; rw [h3]
  have e5 : cwF u 5 = if 17 < (cwF u 4).2 then (4, 17) else cwF u 4 := by show (if u 4 < (cwF u 4).2 then (4, u 4) else cwF u 4) = _; rw [h4]
  constructor
  · intro e
    subst e
    rw [if_pos (by decide)] at e1
    rw [e1, if_neg (by show ¬ u1 < 2; omega)] at e2
    rw [e2, if_neg (by show ¬ u2 < 2; omega)] at e3
    rw [e3, if_neg (by show ¬ u3 < 2; omega)] at e4
    rw [e4, if_neg (by show ¬ 17 < 2; omega)] at e5
    exact e5
  · intro e
    subst e
    rw [if_neg (by decide)] at e1
    rw [e1] at e2
    rcases z1 with e | e
    · subst e
      rw [if_pos (by show 3 < 99; decide)] at e2
      rw [e2, if_neg (by show ¬ u2 < 3; omega)] at e3
      rw [e3, if_neg (by show ¬ u3 < 3; omega)] at e4
      rw [e4, if_neg (by show ¬ 17 < 3; omega)] at e5
      rw [e5]
      refine ⟨by show 3 = _; omega, Nat.le_refl 1, by decide, fun _ => rfl, fun z => absurd z (by decide)⟩
    · subst e
      rw [if_neg (by show ¬ 99 < 99; omega)] at e2
      rw [e2] at e3
      by_cases c2 : u2 < 99
      · rw [if_pos (by show u2 < 99; exact c2)] at e3
        rw [e3] at e4
        by_cases c3 : u3 < u2
        · rw [if_pos (by show u3 < u2; exact c3)] at e4
          rw [e4] at e5
          by_cases c4 : 17 < u3
          · rw [if_pos (by show 17 < u3; exact c4)] at e5
            rw [e5]
            exact ⟨by show 17 = _; omega, by decide, by decide, fun z => absurd z (by decide), fun z => absurd z (by decide)⟩
          · rw [if_neg (by show ¬ 17 < u3; exact c4)] at e5
            rw [e5]
            exact ⟨by show u3 = _; omega, (by decide : 1 ≤ 3), (by decide : 3 ≤ 4), fun z => absurd (show 3 = 1 from z) (by decide), fun _ => rfl⟩
        · rw [if_neg (by show ¬ u3 < u2; exact c3)] at e4
          rw [e4] at e5
          by_cases c4 : 17 < u2
          · rw [if_pos (by show 17 < u2; exact c4)] at e5
            rw [e5]
            exact ⟨by show 17 = _; omega, by decide, by decide, fun z => absurd z (by decide), fun z => absurd z (by decide)⟩
          · rw [if_neg (by show ¬ 17 < u2; exact c4)] at e5
            rw [e5]
            exact ⟨by show u2 = _; omega, (by decide : 1 ≤ 2), (by decide : 2 ≤ 4), fun z => absurd (show 2 = 1 from z) (by decide), fun z => absurd (show 2 = 3 from z) (by decide)⟩
      · rw [if_neg (by show ¬ u2 < 99; exact c2)] at e3
        rw [e3] at e4
        rw [if_pos (by show u3 < 99; omega)] at e4
        rw [e4] at e5
        by_cases c4 : 17 < u3
        · rw [if_pos (by show 17 < u3; exact c4)] at e5
          rw [e5]
          exact ⟨by show 17 = _; omega, by decide, by decide, fun z => absurd z (by decide), fun z => absurd z (by decide)⟩
        · rw [if_neg (by show ¬ 17 < u3; exact c4)] at e5
          rw [e5]
          exact ⟨by show u3 = _; omega, (by decide : 1 ≤ 3), (by decide : 3 ≤ 4), fun z => absurd (show 3 = 1 from z) (by decide), fun _ => rfl⟩
theorem ubc_rng (n : Nat) : 10 ≤ ubc n ∧ ubc n ≤ 99 := by
  unfold ubc
  repeat' split
  all_goals omega
theorem tile_ok (C : List Int64) (x : Int64) : nCol x ≤ nRun x ∧ nRun x ≤ 16 ∧ 1 ≤ nRun x ∧ (wayO C x < 100 → wayO C x = 2) ∧ (100 ≤ wayO C x → wayO C x % 100 = min (min (1 + 2 * nRun x) 17) (ubL (nCol x))) ∧ (wayO C x / 100 = 1 → nCol x = 1) ∧ (wayO C x / 100 = 3 → wayO C x % 100 = 1 + 2 * nRun x) ∧ wayO C x / 100 ≤ 4 ∧ 2 ≤ wayO C x % 100 ∧ wayO C x % 100 ≤ 17 := by
  have hr := nRun_le x
  have hr1 : 1 ≤ nRun x := run_pos x 15
  have hcr := col_run x
  have hu := ubc_rng (nCol x)
  obtain ⟨k0, k9⟩ := cw_ok (unW C x 0) (unW C x 1) (ubc (nCol x)) (1 + 2 * nRun x) (unW C x) rfl rfl rfl rfl rfl (by show (if ixF C x < C.length then 2 else 99) = 2 ∨ (if ixF C x < C.length then 2 else 99) = 99; split <;> omega) (by show (if nCol x = 1 then 3 else 99) = 3 ∨ (if nCol x = 1 then 3 else 99) = 99; split <;> omega) hu (by omega)
  have ew : wayO C x = 100 * (cwF (unW C x) 5).1 + (cwF (unW C x) 5).2 := rfl
  rcases (show unW C x 0 = 2 ∨ unW C x 0 = 99 from by show (if ixF C x < C.length then 2 else 99) = 2 ∨ (if ixF C x < C.length then 2 else 99) = 99; split <;> omega) with e | e
  · have e2 : wayO C x = 2 := by rw [ew, k0 e]; rfl
    rw [e2]
    refine ⟨hcr, hr, hr1, fun _ => rfl, fun z => absurd z (by decide), fun z => absurd z (by decide), fun z => absurd z (by decide), by decide, by decide, by decide⟩
  · obtain ⟨g1, g2, g3, g4, g5⟩ := k9 e
    have hc1 : unW C x 1 = if nCol x = 1 then 3 else 99 := rfl
    have hub : min (unW C x 1) (ubc (nCol x)) = if nCol x = 1 then 3 else ubc (nCol x) := by
      rw [hc1]
      split <;> omega
    have h17 : min (min (unW C x 1) (ubc (nCol x))) (min (1 + 2 * nRun x) 17) = min (min (1 + 2 * nRun x) 17) (ubL (nCol x)) := by
      rw [hub]
      unfold ubL ubc
      repeat' split
      all_goals omega
    have hm : ubL (nCol x) ≤ 17 ∧ 3 ≤ ubL (nCol x) := by
      unfold ubL
      repeat' split
      all_goals omega
    have hc3 : unW C x 1 = 3 → nCol x = 1 := by
      rw [hc1]
      split
      · exact fun _ => by assumption
      · exact fun z => absurd z (by decide)
    generalize (cwF (unW C x) 5).1 = p at *
    generalize (cwF (unW C x) 5).2 = u at *
    rw [h17] at g1
    refine ⟨hcr, hr, hr1, fun z => by omega, fun z => by omega, fun z => hc3 (g4 (by omega)), fun z => by have := g5 (by omega); omega, by omega, by omega, by omega⟩
/-! a message -/
theorem ask_all (s : Nat → Int64) : ∀ (L : List Nat) (M : List (Nat × Int64)) (C : List Int64) (b : Nat) (w : Nat → Int32), 17 * L.length ≤ b → ∃ M2 C2 b2 w2, askF s L M C b w = ([], M2, C2, b2, w2) ∧ M2.length = M.length + L.length ∧ b2 + 2 * L.length ≤ b ∧ b ≤ b2 + 17 * L.length
  | [], M, C, b, w, _ => ⟨M, C, b, w, rfl, rfl, Nat.le_refl _, Nat.le_refl _⟩
  | t :: r, M, C, b, w, h => by
    obtain ⟨-, -, -, -, -, -, -, -, h2, h17⟩ := tile_ok C (s t)
    rw [List.length_cons] at h
    have hc : wayO C (s t) % 100 ≤ b := by omega
    obtain ⟨M2, C2, b2, w2, e, h3, h4, h5⟩ := ask_all s r (M ++ [(t, s t)]) (brg C (s t)) (b - wayO C (s t) % 100) (upd w (wayO C (s t) / 100) (w (wayO C (s t) / 100) + nI 1)) (by omega)
    refine ⟨M2, C2, b2, w2, ?_, ?_, ?_, ?_⟩
    · show (if _ then _ else _) = _
      rw [if_pos hc, e]
    · rw [h3, List.length_append, List.length_singleton, List.length_cons]; omega
    · rw [List.length_cons]; omega
    · rw [List.length_cons]; omega
theorem ask_inv (s : Nat → Int64) : ∀ (L : List Nat) (M : List (Nat × Int64)) (C : List Int64) (b : Nat) (w : Nat → Int32), ∃ D : List (Nat × Int64), (askF s L M C b w).2.1 = M ++ D ∧ (askF s L M C b w).2.2.1 = cchF D C ∧ L = D.map Prod.fst ++ (askF s L M C b w).1 ∧ ∀ m ∈ D, m.2 = s m.1
  | [], M, C, b, w => ⟨[], (List.append_nil M).symm, rfl, rfl, fun m h => absurd h List.not_mem_nil⟩
  | t :: r, M, C, b, w => by
    by_cases hc : wayO C (s t) % 100 ≤ b
    · obtain ⟨D, h1, h2, h3, h4⟩ := ask_inv s r (M ++ [(t, s t)]) (brg C (s t)) (b - wayO C (s t) % 100) (upd w (wayO C (s t) / 100) (w (wayO C (s t) / 100) + nI 1))
      have e : askF s (t :: r) M C b w = askF s r (M ++ [(t, s t)]) (brg C (s t)) (b - wayO C (s t) % 100) (upd w (wayO C (s t) / 100) (w (wayO C (s t) / 100) + nI 1)) := by
        show (if _ then _ else _) = _
        rw [if_pos hc]
      rw [e]
      refine ⟨(t, s t) :: D, ?_, h2, ?_, ?_⟩
      · rw [h1, List.append_assoc]; rfl
      · rw [List.map_cons, List.cons_append, ← h3]
      · intro m hm
        rcases List.mem_cons.mp hm with z | z
        · rw [z]
        · exact h4 m z
    · have e : askF s (t :: r) M C b w = (t :: r, M, C, b, w) := by
        show (if _ then _ else _) = _
        rw [if_neg hc]
      rw [e]
      exact ⟨[], (List.append_nil M).symm, rfl, rfl, fun m h => absurd h List.not_mem_nil⟩
theorem askF_cong {s s2 : Nat → Int64} : ∀ (L : List Nat) (M : List (Nat × Int64)) (C : List Int64) (b : Nat) (w : Nat → Int32), (∀ d ∈ L, s d = s2 d) → askF s L M C b w = askF s2 L M C b w
  | [], M, C, b, w, _ => rfl
  | t :: r, M, C, b, w, h => by
    have ht := h t List.mem_cons_self
    show (if wayO C (s t) % 100 ≤ b then askF s r (M ++ [(t, s t)]) (brg C (s t)) (b - wayO C (s t) % 100) (upd w (wayO C (s t) / 100) (w (wayO C (s t) / 100) + nI 1)) else (t :: r, M, C, b, w)) = (if wayO C (s2 t) % 100 ≤ b then askF s2 r (M ++ [(t, s2 t)]) (brg C (s2 t)) (b - wayO C (s2 t) % 100) (upd w (wayO C (s2 t) / 100) (w (wayO C (s2 t) / 100) + nI 1)) else (t :: r, M, C, b, w))
    rw [ht, askF_cong r _ _ _ _ (fun d hd => h d (List.mem_cons_of_mem _ hd))]
theorem scr_in {s : Nat → Int64} : ∀ (D : List (Nat × Int64)) (f : Nat → Int64) (t : Nat), (∀ m ∈ D, m.2 = s m.1) → (t ∈ D.map Prod.fst → scrF D f t = s t) ∧ (¬ t ∈ D.map Prod.fst → scrF D f t = f t)
  | [], f, t, _ => ⟨fun h => absurd h List.not_mem_nil, fun _ => rfl⟩
  | (k, x) :: D, f, t, h => by
    have hx : x = s k := h (k, x) List.mem_cons_self
    obtain ⟨h1, h2⟩ := scr_in D (vp_updL f k x) t (fun m hm => h m (List.mem_cons_of_mem _ hm))
    have e : scrF ((k, x) :: D) f = scrF D (vp_updL f k x) := rfl
    rw [e, List.map_cons]
    constructor
    · intro hm
      by_cases hd : t ∈ D.map Prod.fst
      · exact h1 hd
      · rw [h2 hd]
        rcases List.mem_cons.mp hm with z | z
        · rw [z, pk_uLs, hx]
        · exact absurd z hd
    · intro hm
      have hd : ¬ t ∈ D.map Prod.fst := fun z => hm (List.mem_cons_of_mem _ z)
      rw [h2 hd, pk_uLn (fun z => hm (by rw [z]; exact List.mem_cons_self))]
theorem scr_cong : ∀ (D : List (Nat × Int64)) (f g : Nat → Int64), (∀ t, t < 12 → f t = g t) → ∀ t, t < 12 → scrF D f t = scrF D g t
  | [], f, g, h, t, ht => h t ht
  | (k, x) :: D, f, g, h, t, ht => scr_cong D (vp_updL f k x) (vp_updL g k x) (fun j hj => by
      by_cases e : j = k
      · rw [e, pk_uLs, pk_uLs]
      · rw [pk_uLn e, pk_uLn e]; exact h j hj) t ht
theorem difF_0 {x y : Int64} : ∀ i, difF x y i = 0 → ∀ k, k < i → cel x k = cel y k
  | 0, _, k, hk => absurd hk (Nat.not_lt_zero k)
  | i + 1, h, k, hk => by
    have h : difF x y i + (if cel x i = cel y i then 0 else 1) = 0 := h
    by_cases e : cel x i = cel y i
    · rw [if_pos e] at h
      rcases Nat.lt_or_eq_of_le (Nat.le_of_lt_succ hk) with z | z
      · exact difF_0 i (by omega) k z
      · rw [z]; exact e
    · rw [if_neg e] at h; omega
theorem nDif_0 {x y : Int64} (h : nDif x y = 0) : x = y := cel_ext (difF_0 16 h)
theorem difF_s (x : Int64) : ∀ i, difF x x i = 0
  | 0 => rfl
  | i + 1 => by show difF x x i + (if cel x i = cel x i then 0 else 1) = 0; rw [difF_s x i, if_pos rfl]
theorem sumD_0 {f g : Nat → Int64} : ∀ i, (∀ k, k < i → f k = g k) → sumD f g i = 0
  | 0, _ => rfl
  | i + 1, h => by
    show sumD f g i + nDif (f i) (g i) = 0
    rw [sumD_0 i (fun k hk => h k (by omega)), h i (Nat.lt_succ_self i)]
    rw [Nat.zero_add]
    exact difF_s (g i) 16
theorem soil_mem {L : List Nat} {t k : Nat} (h : t ∈ L) : t ∈ soil L k := by
  unfold soil
  split
  · exact h
  · exact List.mem_append_left _ h
theorem soil_self (L : List Nat) (k : Nat) : k ∈ soil L k := by
  unfold soil
  split
  · assumption
  · exact List.mem_append_right _ (List.mem_singleton.mpr rfl)
theorem stl_mem {J : Prop} (hJ : J) {b s : Nat → Int64} {L : List Nat} {t : Nat} : ∀ i, t ∈ L ∨ (t < i ∧ ¬ b t = s t) → t ∈ stlF J b s L i
  | 0, h => by
    rcases h with h | h
    · exact h
    · exact absurd h.1 (Nat.not_lt_zero t)
  | i + 1, h => by
    show t ∈ (if 0 < nDif (b i) (s i) then soilJ J (stlF J b s L i) i else stlF J b s L i)
    by_cases c : 0 < nDif (b i) (s i)
    · rw [if_pos c, ← soilJ_t hJ]
      by_cases e : t = i
      · rw [e]; exact soil_self _ _
      · refine soil_mem (stl_mem hJ i ?_)
        rcases h with h | h
        · exact Or.inl h
        · exact Or.inr ⟨by omega, h.2⟩
    · rw [if_neg c]
      have hz : nDif (b i) (s i) = 0 := by omega
      refine stl_mem hJ i ?_
      rcases h with h | h
      · exact Or.inl h
      · refine Or.inr ⟨?_, h.2⟩
        have : t ≠ i := fun e => h.2 (by rw [e]; exact nDif_0 hz)
        omega
theorem stlF_cong2 {J : Prop} {b b2 s s2 : Nat → Int64} {L : List Nat} (h : ∀ k, k < 12 → b k = b2 k) (h2 : ∀ k, k < 12 → s k = s2 k) : ∀ i, i ≤ 12 → stlF J b s L i = stlF J b2 s2 L i
  | 0, _ => rfl
  | i + 1, hi => by
    show (if 0 < nDif (b i) (s i) then soilJ J (stlF J b s L i) i else stlF J b s L i) = (if 0 < nDif (b2 i) (s2 i) then soilJ J (stlF J b2 s2 L i) i else stlF J b2 s2 L i)
    rw [stlF_cong2 h h2 i (by omega), h i (by omega), h2 i (by omega)]
theorem sumD_cong2 {b b2 s s2 : Nat → Int64} (h : ∀ k, k < 12 → b k = b2 k) (h2 : ∀ k, k < 12 → s k = s2 k) : ∀ i, i ≤ 12 → sumD b s i = sumD b2 s2 i
  | 0, _ => rfl
  | i + 1, hi => by
    show sumD b s i + nDif (b i) (s i) = sumD b2 s2 i + nDif (b2 i) (s2 i)
    rw [sumD_cong2 h h2 i (by omega), h i (by omega), h2 i (by omega)]
theorem gD_same {f g : Nat → Int64} {V W : Nat → Nat → Nat} (hf : gD f V) (hg : gD g W) (h : ∀ c r, c < 16 → r < 12 → V c r = W c r) : ∀ k, k < 12 → f k = g k := by
  intro k hk
  refine cel_ext (fun p hp => ?_)
  have hc : 4 * (k % 4) + p % 4 < 16 := by omega
  have hr : 4 * (k / 4) + p / 4 < 12 := by omega
  have e1 : tl (4 * (k % 4) + p % 4) (4 * (k / 4) + p / 4) = k := by show 4 * ((4 * (k / 4) + p / 4) / 4) + (4 * (k % 4) + p % 4) / 4 = k; omega
  have e2 : plc (4 * (k % 4) + p % 4) (4 * (k / 4) + p / 4) = p := by show 4 * ((4 * (k / 4) + p / 4) % 4) + (4 * (k % 4) + p % 4) % 4 = p; omega
  have h1 : cel (f (tl (4 * (k % 4) + p % 4) (4 * (k / 4) + p / 4))) (plc (4 * (k % 4) + p % 4) (4 * (k / 4) + p / 4)) = _ := hf _ _ hc hr
  have h2 : cel (g (tl (4 * (k % 4) + p % 4) (4 * (k / 4) + p / 4))) (plc (4 * (k % 4) + p % 4) (4 * (k / 4) + p / 4)) = _ := hg _ _ hc hr
  rw [e1, e2] at h1 h2
  rw [h1, h2, h _ _ hc hr]
