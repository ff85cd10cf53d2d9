/-! the model: drawing -/
theorem dif_t {x y : Int64} {k : Nat} (h : 0 < difF x y k) : 0 < difF x y (k + 1) := by
  show 0 < difF x y k + (if cel x k = cel y k then 0 else 1); omega
theorem dif_ne {x y : Int64} {k : Nat} (h : ¬ cel x k = cel y k) : 0 < difF x y (k + 1) := by
  show 0 < difF x y k + (if cel x k = cel y k then 0 else 1); rw [if_neg h]; omega
theorem dif_no {x y : Int64} {k : Nat} (h : ¬ 0 < difF x y k) (e : cel x k = cel y k) : ¬ 0 < difF x y (k + 1) := by
  show ¬ 0 < difF x y k + (if cel x k = cel y k then 0 else 1); rw [if_pos e]; omega
theorem dif_s {x y : Int64} {k : Nat} : difF x y (k + 1) = difF x y k + (if cel x k = cel y k then 0 else 1) := rfl
/-- both clients' rows of dirty tiles -/
def rowsR (LL : Nat → List Nat) (d mn : Nat → Int32) : Prop := ∀ c, c < 2 → hNo (LL c) d c ∧ mn c = nI (LL c).length
def mixF (nx cu : Nat → List Nat) (i : Nat) : Nat → List Nat := fun c => if c < i then nx c else cu c
theorem rows_cong {A B : Nat → List Nat} {d mn : Nat → Int32} (h : rowsR A d mn) (e : ∀ c, c < 2 → A c = B c) : rowsR B d mn := fun c hc => by rw [← e c hc]; exact h c hc
theorem rows_at {nx cu : Nat → List Nat} {d mn : Nat → Int32} {i : Nat} (h : rowsR (mixF nx cu i) d mn) (hi : i < 2) : hNo (cu i) d i ∧ mn i = nI (cu i).length := by
  have := h i hi
  unfold mixF at this
  rw [if_neg (Nat.lt_irrefl i)] at this
  exact this
theorem rows_skip {nx cu : Nat → List Nat} {d mn : Nat → Int32} {i : Nat} (h : rowsR (mixF nx cu i) d mn) (e : nx i = cu i) : rowsR (mixF nx cu (i + 1)) d mn := rows_cong h (fun c _ => by
  unfold mixF
  by_cases h1 : c < i
  · rw [if_pos h1, if_pos (by omega)]
  · rw [if_neg h1]
    by_cases h2 : c = i
    · rw [h2, if_pos (Nat.lt_succ_self i), e]
    · rw [if_neg (by omega)])
theorem rows_soil {nx cu : Nat → List Nat} {d mn d2 mn2 : Nat → Int32} {i t : Nat} (h : rowsR (mixF nx cu i) d mn) (e : nx i = soil (cu i) t) (hl : ∀ c, c < 2 → (mixF nx cu i c).length ≤ 12) (hp : hNo (soil (cu i) t) d2 i ∧ mn2 i = nI (soil (cu i) t).length ∧ kO 12 i d d2 ∧ kO 1 i mn mn2) : rowsR (mixF nx cu (i + 1)) d2 mn2 := by
  intro c hc
  by_cases h2 : c = i
  · subst h2
    unfold mixF
    rw [if_pos (Nat.lt_succ_self c), e]
    exact ⟨hp.1, hp.2.1⟩
  · have e1 : mixF nx cu (i + 1) c = mixF nx cu i c := by
      unfold mixF
      by_cases h1 : c < i
      · rw [if_pos h1, if_pos (by omega)]
      · rw [if_neg h1, if_neg (by omega)]
    rw [e1]
    exact ⟨kO_N hp.2.2.1 (h c hc).1 (hl c hc) h2, (kO_1 hp.2.2.2 h2).trans (h c hc).2⟩
theorem stlF_st {J : Prop} {b s : Nat → Int64} {L : List Nat} {i : Nat} (c : 0 < nDif (b i) (s i)) (hJ : J) : stlF J b s L (i + 1) = soil (stlF J b s L i) i := by rw [← stlF_t rfl c, ← soilJ_t hJ]
theorem stlF_sj {J : Prop} {b s : Nat → Int64} {L : List Nat} {i : Nat} (hJ : ¬ J) : stlF J b s L (i + 1) = stlF J b s L i := by
  by_cases c : 0 < nDif (b i) (s i)
  · rw [← stlF_t rfl c, ← soilJ_f hJ]
  · rw [← stlF_f rfl c]
theorem stlF_sn {J : Prop} {b s : Nat → Int64} {L : List Nat} {i : Nat} (c : ¬ 0 < nDif (b i) (s i)) : stlF J b s L (i + 1) = stlF J b s L i := by rw [← stlF_f rfl c]
theorem mix_le {J : Nat → Prop} {B S : Nat → Int64} {LL : Nat → List Nat} {t i : Nat} (ht : t + 1 ≤ 12) (ho : ∀ c, c < 2 → okD (LL c)) : ∀ c, c < 2 → (mixF (fun c => stlF (J c) B S (LL c) (t + 1)) (fun c => stlF (J c) B S (LL c) t) i c).length ≤ 12 := fun c hc => by
  unfold mixF
  split
  · exact okD_len (stlF_ok (ho c hc) _ ht)
  · exact okD_len (stlF_ok (ho c hc) _ (by omega))
theorem iX4_settle_X4 : ∀ w ∈ wsX40, w ∈ wsX4_settle := by decide +kernel
set_option maxHeartbeats 4000000 in
set_option maxRecDepth 100000 in
theorem c_X4_settle (l : Launch) (D : va_G) (cy : Nat → ClassId) (sz : Nat) (q : Nat → Nat) (T U : Int32) (sc bf is d mn : Nat → Int32) (S B : Nat → Int64) (J : Nat → Prop) (LL : Nat → List Nat) (hs : hS S sc) (hb9 : hS B bf) (hj : ∀ c, c < 2 → is c = gb (J c)) (hr9 : rowsR LL d mn) (ho : ∀ c, c < 2 → okD (LL c)) : Met l yX4_settle wsX4_settle ({ frames := 1, cells := 0, slots := 0, locals := 24 } : Room) (va_Pc [.ref (q 0)] (gI D (gT cy) [(q 0, eMod T q U), (q 1, eI cy 192 sc), (q 2, eI cy 192 bf), (q 3, eZ cy 2 is), (q 9, eI cy 24 d), (q 10, eI cy 2 mn)] sz)) (va_Qi (fun (r9 : Int32) (u : (Nat → Int32) × (Nat → Int32)) => r9 = nI (sumD B S 12) ∧ ((rowsR (fun c => stlF (J c) B S (LL c) 12) u.1 u.2))) (gO D (fun u : (Nat → Int32) × (Nat → Int32) => [(q 0, eMod T q U), (q 1, eI cy 192 sc), (q 2, eI cy 192 bf), (q 3, eZ cy 2 is), (q 9, eI cy 24 u.1), (q 10, eI cy 2 u.2)]) (va_A [(q 0, eMod T q U), (q 1, eI cy 192 sc), (q 2, eI cy 192 bf), (q 3, eZ cy 2 is), (q 9, eI cy 24 d), (q 10, eI cy 2 mn)] sz)) (va_A [(q 0, eMod T q U), (q 1, eI cy 192 sc), (q 2, eI cy 192 bf), (q 3, eZ cy 2 is), (q 9, eI cy 24 d), (q 10, eI cy 2 mn)] sz)) 0 0 (va_A [(q 0, eMod T q U), (q 1, eI cy 192 sc), (q 2, eI cy 192 bf), (q 3, eZ cy 2 is), (q 9, eI cy 24 d), (q 10, eI cy 2 mn)] sz) := by
  refine gW_i (cc := cX4_settle) (maxL := 6) (ty := .int) (by decide) rfl (Nat.le_of_ble_eq_true rfl) (fun v u hv => by rfl) ?_
  intro pp ee ss mm bw mt cd QQ AA ls hfx hP hG hD hA hret hl
  have hS : va_S AA ss.heap ss.heap [] := va_S.rf
  obtain ⟨H, eH⟩ : ∃ H, H = ss.heap := ⟨_, rfl⟩
  obtain ⟨locs, eL⟩ : ∃ L : List Loc, L = [] := ⟨_, rfl⟩
  have hP : va_P D vwCl [(q 0, eMod T q U), (q 1, eI cy 192 sc), (q 2, eI cy 192 bf), (q 3, eZ cy 2 is), (q 9, eI cy 24 d), (q 10, eI cy 2 mn)] H := by rw [eH]; exact hP
  have hS : va_S AA ss.heap H locs := by rw [eH, eL]; exact hS
  have goal : ∀ X Y, X = H → Y = locs → W pp l ee ({ frames := 1, cells := 0, slots := 0, locals := 24 } : Room) ss mm ([.ref (q 0)] : List Value).toArray bw mt cd X Y 0 0 QQ (F0 mm 0 ls []) → W pp l ee ({ frames := 1, cells := 0, slots := 0, locals := 24 } : Room) ss mm ([.ref (q 0)] : List Value).toArray bw mt cd ss.heap [] 0 0 QQ (F0 mm 0 ls []) := fun X Y hX hY h => by rw [hX, hY, eH, eL] at h; exact h
  refine goal H locs rfl rfl ?_
  clear goal eH eL
  obtain ⟨hx, hb, hml, hown, hts, hlocks⟩ := hfx
  have hown : ss.vm.findClass RX4 = some mm.cls := hown
  have hl : lv_has ls 6 [(0, .ref (q 0))] := hl
  refine lv_iconst (v := nI 0) hx hb dX4_settle_0 (by decide) ?_
  refine lv_istore_n (lv' := [(1, .int (nI 0)), (0, .ref (q 0))]) hx hb dX4_settle_1 rfl hl (by decide) rfl (fun ls hl => ?_)
  refine lv_iconst (v := nI 0) hx hb dX4_settle_2 (by decide) ?_
  refine lv_istore_n (lv' := [(2, .int (nI 0)), (1, .int (nI 0)), (0, .ref (q 0))]) hx hb dX4_settle_3 rfl hl (by decide) rfl (fun ls hl => ?_)
  have loop_4 : ∀ (n9 : Nat) (t w : Nat) (d1 m1 : Nat → Int32), 12 - t < n9 → (t ≤ 12) → (w = sumD B S t) → (rowsR (fun c => stlF (J c) B S (LL c) t) d1 m1) → ∀ (H : Heap) (locs : List Loc) (ls : Array Slot), va_P D vwCl [(q 0, eMod T q U), (q 1, eI cy 192 sc), (q 2, eI cy 192 bf), (q 3, eZ cy 2 is), (q 9, eI cy 24 d1), (q 10, eI cy 2 m1)] H → va_D AA [(q 0, eMod T q U), (q 1, eI cy 192 sc), (q 2, eI cy 192 bf), (q 3, eZ cy 2 is), (q 9, eI cy 24 d1), (q 10, eI cy 2 m1)] → va_S AA ss.heap H locs → lv_has ls 6 [(0, .ref (q 0)), (1, .int (nI w)), (2, .int (nI t))] → W pp l ee ({ frames := 1, cells := 0, slots := 0, locals := 24 } : Room) ss mm ([.ref (q 0)] : List Value).toArray bw mt cd H locs 0 0 QQ (F0 mm 4 ls []) := by
    intro n9
    induction n9 with
    | zero => intro t w d1 m1 h9; exact absurd h9 (Nat.not_lt_zero _)
    | succ n9 ih_4 =>
      intro t w d1 m1 hm_4 hi hw hrow H locs ls hP hD hS hl
      have z1 := sumD_le B S t
      refine lv_iload_n hx hb dX4_settle_4 rfl (lv_at hl 2 rfl) ?_
      refine lv_bipush (v := nI 12) hx hb dX4_settle_5 (by decide) ?_
      refine lv_icmp_ge (tgt := 130) hx hb dX4_settle_7 (by decide) (fun c_7 => ?_) (fun c_7 => ?_)
      · skip
        have c_7 : 12 ≤ t := (nI_leI (a := 12) (b := t) (by omega) (by omega)).mp c_7
        refine lv_iload_n hx hb dX4_settle_130 rfl (lv_at hl 1 rfl) ?_
        exact hret _ _ _ _ _ ⟨d1, m1⟩ dX4_settle_131 (by have e9 : t = 12 := (by omega); rw [hw, e9]; exact ⟨rfl, by rw [e9] at hrow; exact hrow⟩) (hP.sub [0, 1, 2, 3, 4, 5] rfl) (hD.sub [0, 1, 2, 3, 4, 5] (by decide) rfl) hS
      · skip
        have c_7 : ¬ 12 ≤ t := fun z => c_7 ((nI_leI (a := 12) (b := t) (by omega) (by omega)).mpr z)
        refine lv_iconst (v := nI 0) hx hb dX4_settle_10 (by decide) ?_
        refine g_ti (y := gb (False)) ((gb_f id).symm) ?_
        refine lv_istore_n (lv' := [(3, .int (gb (False))), (0, .ref (q 0)), (1, .int (nI w)), (2, .int (nI t))]) hx hb dX4_settle_11 rfl hl (by decide) rfl (fun ls hl => ?_)
        refine lv_iconst (v := nI 0) hx hb dX4_settle_12 (by decide) ?_
        refine lv_istore (lv' := [(4, .int (nI 0)), (3, .int (gb (False))), (0, .ref (q 0)), (1, .int (nI w)), (2, .int (nI t))]) hx hb dX4_settle_13 hl (by decide) rfl (fun ls hl => ?_)
        have loop_15 : ∀ (n9 : Nat) (k w2 : Nat) (P : Prop), 16 - k < n9 → (k ≤ 16) → (w2 = w + difF (B t) (S t) k) → (P ↔ 0 < difF (B t) (S t) k) → ∀ (H : Heap) (locs : List Loc) (ls : Array Slot), va_P D vwCl [(q 0, eMod T q U), (q 1, eI cy 192 sc), (q 2, eI cy 192 bf), (q 3, eZ cy 2 is), (q 9, eI cy 24 d1), (q 10, eI cy 2 m1)] H → va_D AA [(q 0, eMod T q U), (q 1, eI cy 192 sc), (q 2, eI cy 192 bf), (q 3, eZ cy 2 is), (q 9, eI cy 24 d1), (q 10, eI cy 2 m1)] → va_S AA ss.heap H locs → lv_has ls 6 [(0, .ref (q 0)), (1, .int (nI w2)), (2, .int (nI t)), (3, .int (gb (P))), (4, .int (nI k))] → W pp l ee ({ frames := 1, cells := 0, slots := 0, locals := 24 } : Room) ss mm ([.ref (q 0)] : List Value).toArray bw mt cd H locs 0 0 QQ (F0 mm 15 ls []) := by
          intro n9
          induction n9 with
          | zero => intro k w2 P h9; exact absurd h9 (Nat.not_lt_zero _)
          | succ n9 ih_15 =>
            intro k w2 P hm_15 hk hw2 hP9 H locs ls hP hD hS hl
            refine lv_iload hx hb dX4_settle_15 (lv_at hl 4 rfl) ?_
            refine lv_bipush (v := nI 16) hx hb dX4_settle_17 (by decide) ?_
            refine lv_icmp_ge (tgt := 88) hx hb dX4_settle_19 (by decide) (fun c_19 => ?_) (fun c_19 => ?_)
            · skip
              have c_19 : 16 ≤ k := (nI_leI (a := 16) (b := k) (by omega) (by omega)).mp c_19
              have e16 : k = 16 := by clear hP9; omega
              have hPd : P ↔ 0 < nDif (B t) (S t) := by rw [hP9, e16]; exact Iff.rfl
              refine lv_iconst (v := nI 0) hx hb dX4_settle_88 (by decide) ?_
              refine lv_istore (lv' := [(4, .int (nI 0)), (0, .ref (q 0)), (1, .int (nI w2)), (2, .int (nI t)), (3, .int (gb (P)))]) hx hb dX4_settle_89 hl (by decide) rfl (fun ls hl => ?_)
              have loop_91 : ∀ (n9 : Nat) (i : Nat) (d3 m3 : Nat → Int32), 2 - i < n9 → (i ≤ 2) → (rowsR (mixF (fun c => stlF (J c) B S (LL c) (t + 1)) (fun c => stlF (J c) B S (LL c) t) i) d3 m3) → ∀ (H : Heap) (locs : List Loc) (ls : Array Slot), va_P D vwCl [(q 0, eMod T q U), (q 1, eI cy 192 sc), (q 2, eI cy 192 bf), (q 3, eZ cy 2 is), (q 9, eI cy 24 d3), (q 10, eI cy 2 m3)] H → va_D AA [(q 0, eMod T q U), (q 1, eI cy 192 sc), (q 2, eI cy 192 bf), (q 3, eZ cy 2 is), (q 9, eI cy 24 d3), (q 10, eI cy 2 m3)] → va_S AA ss.heap H locs → lv_has ls 6 [(0, .ref (q 0)), (1, .int (nI w2)), (2, .int (nI t)), (3, .int (gb (P))), (4, .int (nI i))] → W pp l ee ({ frames := 1, cells := 0, slots := 0, locals := 24 } : Room) ss mm ([.ref (q 0)] : List Value).toArray bw mt cd H locs 0 0 QQ (F0 mm 91 ls []) := by
                intro n9
                induction n9 with
                | zero => intro i d3 m3 h9; exact absurd h9 (Nat.not_lt_zero _)
                | succ n9 ih_91 =>
                  intro i d3 m3 hm_91 hi2 hall H locs ls hP hD hS hl
                  refine lv_iload hx hb dX4_settle_91 (lv_at hl 4 rfl) ?_
                  refine lv_iconst (v := nI 2) hx hb dX4_settle_93 (by decide) ?_
                  refine lv_icmp_ge (tgt := 124) hx hb dX4_settle_94 (by decide) (fun c_94 => ?_) (fun c_94 => ?_)
                  · skip
                    have c_94 : 2 ≤ i := (nI_leI (a := 2) (b := i) (by omega) (by omega)).mp c_94
                    refine lv_iinc (v := nI (t + 1)) (lv' := [(2, .int (nI (t + 1))), (0, .ref (q 0)), (1, .int (nI w2)), (3, .int (gb (P))), (4, .int (nI i))]) hx hb dX4_settle_124 hl (k := 2) rfl (nI_1 _) (by decide) rfl (fun ls hl => ?_)
                    refine lv_goto (tgt := 4) hx hb dX4_settle_127 (by decide) ?_
                    exact ih_4 (t + 1) w2 d3 m3 (by omega) (by omega) (by show _ = sumD B S t + difF (B t) (S t) 16; rw [hw2, hw, e16]) (rows_cong hall (fun c hc => if_pos (by omega))) _ _ _ (hP.sub [0, 1, 2, 3, 4, 5] rfl) (hD.sub [0, 1, 2, 3, 4, 5] (by decide) rfl) hS (lv_sub hl [1, 2, 0] rfl)
                  · skip
                    have c_94 : ¬ 2 ≤ i := fun z => c_94 ((nI_leI (a := 2) (b := i) (by omega) (by omega)).mpr z)
                    refine lv_iload_n hx hb dX4_settle_97 rfl (lv_at hl 3 rfl) ?_
                    refine lv_if_eq (tgt := 118) hx hb dX4_settle_98 (by decide) (fun c_98 => ?_) (fun c_98 => ?_)
                    · skip
                      have c_98 : ¬ (P) := gb_eq0.mp c_98
                      refine lv_iinc (v := nI (i + 1)) (lv' := [(4, .int (nI (i + 1))), (0, .ref (q 0)), (1, .int (nI w2)), (2, .int (nI t)), (3, .int (gb (P)))]) hx hb dX4_settle_118 hl (k := 4) rfl (nI_1 _) (by decide) rfl (fun ls hl => ?_)
                      refine lv_goto (tgt := 91) hx hb dX4_settle_121 (by decide) ?_
                      exact ih_91 (i + 1) d3 m3 (by omega) (by omega) (by first | exact rows_soil hall (stlF_st (hPd.mp c_98) c_108) (mix_le (by omega) ho) hw_115 | exact rows_skip hall (stlF_sj c_108) | exact rows_skip hall (stlF_sn (fun z => c_98 (hPd.mpr z)))) _ _ _ (hP.sub [0, 1, 2, 3, 4, 5] rfl) (hD.sub [0, 1, 2, 3, 4, 5] (by decide) rfl) hS (lv_sub hl [1, 2, 3, 4, 0] rfl)
                    · skip
                      have c_98 : P := gb_ne0.mp c_98
                      refine lv_aload_n hx hb dX4_settle_101 rfl (lv_at hl 0 rfl) ?_
                      refine va_get (D := D) (ci := 4) (v := .ref (q 3)) (C := RX4) (T := TX4) (N := 17) hx hb hts iX4_settle_X4 hown hG.1 hP 0 rfl rfl 3 (by decide) (hts (.fieldLink RX4 16 "DirtyTilesModel" "isIn" "[Z") (by decide +kernel)) (fun _ h9 => h9) rfl dX4_settle_102 ?_
                      refine lv_iload hx hb dX4_settle_105 (lv_at hl 4 rfl) ?_
                      refine g_zald hx hb hG hP 3 2 rfl rfl (k := i) (by omega) (by decide) dX4_settle_107 ?_
                      refine g_ti (y := gb (J i)) (hj i (by omega)) ?_
                      refine lv_if_eq (tgt := 118) hx hb dX4_settle_108 (by decide) (fun c_108 => ?_) (fun c_108 => ?_)
                      · skip
                        have c_108 : ¬ (J i) := gb_eq0.mp c_108
                        refine lv_iinc (v := nI (i + 1)) (lv' := [(4, .int (nI (i + 1))), (0, .ref (q 0)), (1, .int (nI w2)), (2, .int (nI t)), (3, .int (gb (P)))]) hx hb dX4_settle_118 hl (k := 4) rfl (nI_1 _) (by decide) rfl (fun ls hl => ?_)
                        refine lv_goto (tgt := 91) hx hb dX4_settle_121 (by decide) ?_
                        exact ih_91 (i + 1) d3 m3 (by omega) (by omega) (by first | exact rows_soil hall (stlF_st (hPd.mp c_98) c_108) (mix_le (by omega) ho) hw_115 | exact rows_skip hall (stlF_sj c_108) | exact rows_skip hall (stlF_sn (fun z => c_98 (hPd.mpr z)))) _ _ _ (hP.sub [0, 1, 2, 3, 4, 5] rfl) (hD.sub [0, 1, 2, 3, 4, 5] (by decide) rfl) hS (lv_sub hl [1, 2, 3, 4, 0] rfl)
                      · skip
                        have c_108 : J i := gb_ne0.mp c_108
                        refine lv_aload_n hx hb dX4_settle_111 rfl (lv_at hl 0 rfl) ?_
                        refine lv_iload hx hb dX4_settle_112 (lv_at hl 4 rfl) ?_
                        refine lv_iload_n hx hb dX4_settle_114 rfl (lv_at hl 2 rfl) ?_
                        refine gc_Wv (wn := fun u => [(q 0, eMod T q U), (q 1, eI cy 192 sc), (q 2, eI cy 192 bf), (q 3, eZ cy 2 is), (q 9, eI cy 24 u.1), (q 10, eI cy 2 u.2)]) (wr := [(q 1, eI cy 192 sc), (q 2, eI cy 192 bf), (q 3, eZ cy 2 is)]) (va_runV (As := [.int (nI i), .int (nI t)]) (rest := []) ⟨hx, hb, hml, hown, hts⟩ (c_X4_soil l D cy H.size q T U d3 m3 (stlF (J i) B S (LL i) t) i t (by omega) (by omega) (rows_at hall (by omega)).1 (rows_at hall (by omega)).2 (stlF_ok (ho i (by omega)) _ (by omega))) (cwV 2 hts gX4_settle_X4_soil rfl rfl rfl (by decide +kernel) ⟨Nat.le_of_ble_eq_true rfl, Nat.le_of_ble_eq_true rfl⟩) (gpVI (ci := 4) (q0 := 0) hG (hP.sub [0, 4, 5] rfl) (hD.sub [0, 4, 5] (by decide) rfl) rfl rfl) rfl rfl hl.1 rfl (lv_room (Nat.le_of_ble_eq_true rfl)) dX4_settle_115 ⟨Nat.zero_le _, Nat.zero_le _⟩) hP hD hS hA [0, 4, 5] [1, 2, 3] [3, 0, 1, 2, 4, 5] rfl rfl (by decide) (by decide) (fun _ => rfl) (by decide) (fun u9 H locs hw_115 hP hD hS => ?_)
                        obtain ⟨d2_115, mn2_115⟩ := u9
                        have hP : va_P D vwCl [(q 0, eMod T q U), (q 1, eI cy 192 sc), (q 2, eI cy 192 bf), (q 3, eZ cy 2 is), (q 9, eI cy 24 d2_115), (q 10, eI cy 2 mn2_115)] H := hP
                        have hD : va_D AA [(q 0, eMod T q U), (q 1, eI cy 192 sc), (q 2, eI cy 192 bf), (q 3, eZ cy 2 is), (q 9, eI cy 24 d2_115), (q 10, eI cy 2 mn2_115)] := hD
                        have hw_115 : hNo (soil (stlF (J i) B S (LL i) t) t) d2_115 i ∧ mn2_115 i = nI (soil (stlF (J i) B S (LL i) t) t).length ∧ kO 12 i d3 d2_115 ∧ kO 1 i m3 mn2_115 := hw_115
                        refine lv_iinc (v := nI (i + 1)) (lv' := [(4, .int (nI (i + 1))), (0, .ref (q 0)), (1, .int (nI w2)), (2, .int (nI t)), (3, .int (gb (P)))]) hx hb dX4_settle_118 hl (k := 4) rfl (nI_1 _) (by decide) rfl (fun ls hl => ?_)
                        refine lv_goto (tgt := 91) hx hb dX4_settle_121 (by decide) ?_
                        exact ih_91 (i + 1) d2_115 mn2_115 (by omega) (by omega) (by first | exact rows_soil hall (stlF_st (hPd.mp c_98) c_108) (mix_le (by omega) ho) hw_115 | exact rows_skip hall (stlF_sj c_108) | exact rows_skip hall (stlF_sn (fun z => c_98 (hPd.mpr z)))) _ _ _ (hP.sub [0, 1, 2, 3, 4, 5] rfl) (hD.sub [0, 1, 2, 3, 4, 5] (by decide) rfl) hS (lv_sub hl [1, 2, 3, 4, 0] rfl)
              exact loop_91 ((2 - 0) + 1) 0 d1 m1 (Nat.lt_succ_self _) (by omega) (rows_cong hrow (fun _ _ => (if_neg (Nat.not_lt_zero _)).symm)) _ _ _ (hP.sub [0, 1, 2, 3, 4, 5] rfl) (hD.sub [0, 1, 2, 3, 4, 5] (by decide) rfl) hS (lv_sub hl [1, 2, 3, 4, 0] rfl)
            · skip
              have c_19 : ¬ 16 ≤ k := fun z => c_19 ((nI_leI (a := 16) (b := k) (by omega) (by omega)).mpr z)
              refine lv_aload_n hx hb dX4_settle_22 rfl (lv_at hl 0 rfl) ?_
              refine va_get (D := D) (ci := 4) (v := .ref (q 1)) (C := RX4) (T := TX4) (N := 17) hx hb hts iX4_settle_X4 hown hG.1 hP 0 rfl rfl 1 (by decide) (hts (.fieldLink RX4 7 "DirtyTilesModel" "screen" "[I") (by decide +kernel)) (fun _ h9 => h9) rfl dX4_settle_23 ?_
              refine lv_iload_n hx hb dX4_settle_26 rfl (lv_at hl 2 rfl) ?_
              refine lv_iload hx hb dX4_settle_27 (lv_at hl 4 rfl) ?_
              refine gc_Si (va_runS (As := [.int (nI t), .int (nI k)]) (rest := [.ref (q 1)]) ⟨hx, hb, hml, hown, hts⟩ (c_X4_cellOf l D cy t k (by omega) (by omega)) (va_cwS 2 hts gX4_settle_X4_cellOf rfl rfl rfl (by decide +kernel) ⟨Nat.le_of_ble_eq_true rfl, Nat.le_of_ble_eq_true rfl⟩) (gpSR hG (hP.sub [] rfl)) rfl rfl hl.1 rfl (lv_room (Nat.le_of_ble_eq_true rfl)) dX4_settle_29 ⟨Nat.zero_le _, Nat.zero_le _⟩) ?_
              refine g_iald hx hb hG hP 1 0 rfl rfl (k := cof t k) (cof_lt (by omega) (by omega)) (by decide) dX4_settle_32 ?_
              refine g_ti (y := nI (cel (S t) k)) (hS_cof hs (by omega) (by omega)) ?_
              refine lv_aload_n hx hb dX4_settle_33 rfl (lv_at hl 0 rfl) ?_
              refine va_get (D := D) (ci := 4) (v := .ref (q 2)) (C := RX4) (T := TX4) (N := 17) hx hb hts iX4_settle_X4 hown hG.1 hP 0 rfl rfl 2 (by decide) (hts (.fieldLink RX4 13 "DirtyTilesModel" "before" "[I") (by decide +kernel)) (fun _ h9 => h9) rfl dX4_settle_34 ?_
              refine lv_iload_n hx hb dX4_settle_37 rfl (lv_at hl 2 rfl) ?_
              refine lv_iload hx hb dX4_settle_38 (lv_at hl 4 rfl) ?_
              refine gc_Si (va_runS (As := [.int (nI t), .int (nI k)]) (rest := [.ref (q 2), .int (nI (cel (S t) k))]) ⟨hx, hb, hml, hown, hts⟩ (c_X4_cellOf l D cy t k (by omega) (by omega)) (va_cwS 2 hts gX4_settle_X4_cellOf rfl rfl rfl (by decide +kernel) ⟨Nat.le_of_ble_eq_true rfl, Nat.le_of_ble_eq_true rfl⟩) (gpSR hG (hP.sub [] rfl)) rfl rfl hl.1 rfl (lv_room (Nat.le_of_ble_eq_true rfl)) dX4_settle_40 ⟨Nat.zero_le _, Nat.zero_le _⟩) ?_
              refine g_iald hx hb hG hP 2 0 rfl rfl (k := cof t k) (cof_lt (by omega) (by omega)) (by decide) dX4_settle_43 ?_
              refine g_ti (y := nI (cel (B t) k)) (hS_cof hb9 (by omega) (by omega)) ?_
              refine lv_icmp_eq (tgt := 51) hx hb dX4_settle_44 (by decide) (fun c_44 => ?_) (fun c_44 => ?_)
              · skip
                have c_44 : (cel (S t) k) = (cel (B t) k) := (nI_eq (a := (cel (S t) k)) (b := (cel (B t) k)) (Nat.lt_trans (cel_lt _ _) (by decide)) (Nat.lt_trans (cel_lt _ _) (by decide))).mp c_44
                refine lv_iconst (v := nI 0) hx hb dX4_settle_51 (by decide) ?_
                refine lv_istore (lv' := [(5, .int (nI 0)), (0, .ref (q 0)), (1, .int (nI w2)), (2, .int (nI t)), (3, .int (gb (P))), (4, .int (nI k))]) hx hb dX4_settle_52 hl (by decide) rfl (fun ls hl => ?_)
                refine lv_iload_n hx hb dX4_settle_54 rfl (lv_at hl 4 rfl) ?_
                refine lv_if_ne (tgt := 63) hx hb dX4_settle_55 (by decide) (fun c_55 => ?_) (fun c_55 => ?_)
                · skip
                  have c_55 : P := gb_ne0.mp c_55
                  refine lv_iconst (v := nI 1) hx hb dX4_settle_63 (by decide) ?_
                  refine g_ti (y := gb (True)) ((gb_t trivial).symm) ?_
                  refine lv_goto (tgt := 68) hx hb dX4_settle_64 (by decide) ?_
                  refine lv_istore_n (lv' := [(3, .int (gb (True))), (5, .int (nI 0)), (0, .ref (q 0)), (1, .int (nI w2)), (2, .int (nI t)), (4, .int (nI k))]) hx hb dX4_settle_68 rfl hl (by decide) rfl (fun ls hl => ?_)
                  refine lv_iload_n hx hb dX4_settle_69 rfl (lv_at hl 3 rfl) ?_
                  refine lv_iload hx hb dX4_settle_70 (lv_at hl 1 rfl) ?_
                  refine lv_if_eq (tgt := 79) hx hb dX4_settle_72 (by decide) (fun c_72 => ?_) (fun c_72 => ?_)
                  · skip
                    have c_72 : 0 = 0 := (nI_eq (a := 0) (b := 0) (by omega) (by omega)).mp c_72
                    refine lv_iconst (v := nI 0) hx hb dX4_settle_79 (by decide) ?_
                    refine lv_iadd hx hb dX4_settle_80 ?_
                    refine g_ti (y := nI (w2 + 0)) (nI_add _ _) ?_
                    refine lv_istore_n (lv' := [(1, .int (nI (w2 + 0))), (3, .int (gb (True))), (5, .int (nI 0)), (0, .ref (q 0)), (2, .int (nI t)), (4, .int (nI k))]) hx hb dX4_settle_81 rfl hl (by decide) rfl (fun ls hl => ?_)
                    refine lv_iinc (v := nI (k + 1)) (lv' := [(4, .int (nI (k + 1))), (1, .int (nI (w2 + 0))), (3, .int (gb (True))), (5, .int (nI 0)), (0, .ref (q 0)), (2, .int (nI t))]) hx hb dX4_settle_82 hl (k := 5) rfl (nI_1 _) (by decide) rfl (fun ls hl => ?_)
                    refine lv_goto (tgt := 15) hx hb dX4_settle_85 (by decide) ?_
                    exact ih_15 (k + 1) (w2 + 0) True (by omega) (by omega) (by rw [dif_s, hw2]; first | (rw [if_pos c_44.symm]; done) | (rw [if_neg (fun e => c_44 e.symm)]; done) | (rw [if_pos c_44.symm]; omega) | (rw [if_neg (fun e => c_44 e.symm)]; omega)) (by first | exact iff_of_true trivial (dif_t (hP9.mp (by assumption))) | exact iff_of_true trivial (dif_ne (fun e => c_44 e.symm)) | exact iff_of_false id (dif_no (fun z => absurd (hP9.mpr z) (by assumption)) c_44.symm)) _ _ _ (hP.sub [0, 1, 2, 3, 4, 5] rfl) (hD.sub [0, 1, 2, 3, 4, 5] (by decide) rfl) hS (lv_sub hl [4, 1, 5, 2, 0] rfl)
                  · skip
                    have c_72 : ¬ 0 = 0 := fun z => c_72 ((nI_eq (a := 0) (b := 0) (by omega) (by omega)).mpr z)
                    exact absurd c_72 (by decide)
                · skip
                  have c_55 : ¬ (P) := gb_eq0.mp c_55
                  refine lv_iload hx hb dX4_settle_58 (lv_at hl 0 rfl) ?_
                  refine lv_if_eq (tgt := 67) hx hb dX4_settle_60 (by decide) (fun c_60 => ?_) (fun c_60 => ?_)
                  · skip
                    have c_60 : 0 = 0 := (nI_eq (a := 0) (b := 0) (by omega) (by omega)).mp c_60
                    refine lv_iconst (v := nI 0) hx hb dX4_settle_67 (by decide) ?_
                    refine g_ti (y := gb (False)) ((gb_f id).symm) ?_
                    refine lv_istore_n (lv' := [(3, .int (gb (False))), (5, .int (nI 0)), (0, .ref (q 0)), (1, .int (nI w2)), (2, .int (nI t)), (4, .int (nI k))]) hx hb dX4_settle_68 rfl hl (by decide) rfl (fun ls hl => ?_)
                    refine lv_iload_n hx hb dX4_settle_69 rfl (lv_at hl 3 rfl) ?_
                    refine lv_iload hx hb dX4_settle_70 (lv_at hl 1 rfl) ?_
                    refine lv_if_eq (tgt := 79) hx hb dX4_settle_72 (by decide) (fun c_72 => ?_) (fun c_72 => ?_)
                    · skip
                      have c_72 : 0 = 0 := (nI_eq (a := 0) (b := 0) (by omega) (by omega)).mp c_72
                      refine lv_iconst (v := nI 0) hx hb dX4_settle_79 (by decide) ?_
                      refine lv_iadd hx hb dX4_settle_80 ?_
                      refine g_ti (y := nI (w2 + 0)) (nI_add _ _) ?_
                      refine lv_istore_n (lv' := [(1, .int (nI (w2 + 0))), (3, .int (gb (False))), (5, .int (nI 0)), (0, .ref (q 0)), (2, .int (nI t)), (4, .int (nI k))]) hx hb dX4_settle_81 rfl hl (by decide) rfl (fun ls hl => ?_)
                      refine lv_iinc (v := nI (k + 1)) (lv' := [(4, .int (nI (k + 1))), (1, .int (nI (w2 + 0))), (3, .int (gb (False))), (5, .int (nI 0)), (0, .ref (q 0)), (2, .int (nI t))]) hx hb dX4_settle_82 hl (k := 5) rfl (nI_1 _) (by decide) rfl (fun ls hl => ?_)
                      refine lv_goto (tgt := 15) hx hb dX4_settle_85 (by decide) ?_
                      exact ih_15 (k + 1) (w2 + 0) False (by omega) (by omega) (by rw [dif_s, hw2]; first | (rw [if_pos c_44.symm]; done) | (rw [if_neg (fun e => c_44 e.symm)]; done) | (rw [if_pos c_44.symm]; omega) | (rw [if_neg (fun e => c_44 e.symm)]; omega)) (by first | exact iff_of_true trivial (dif_t (hP9.mp (by assumption))) | exact iff_of_true trivial (dif_ne (fun e => c_44 e.symm)) | exact iff_of_false id (dif_no (fun z => absurd (hP9.mpr z) (by assumption)) c_44.symm)) _ _ _ (hP.sub [0, 1, 2, 3, 4, 5] rfl) (hD.sub [0, 1, 2, 3, 4, 5] (by decide) rfl) hS (lv_sub hl [4, 1, 5, 2, 0] rfl)
                    · skip
                      have c_72 : ¬ 0 = 0 := fun z => c_72 ((nI_eq (a := 0) (b := 0) (by omega) (by omega)).mpr z)
                      exact absurd c_72 (by decide)
                  · skip
                    have c_60 : ¬ 0 = 0 := fun z => c_60 ((nI_eq (a := 0) (b := 0) (by omega) (by omega)).mpr z)
                    exact absurd c_60 (by decide)
              · skip
                have c_44 : ¬ (cel (S t) k) = (cel (B t) k) := fun z => c_44 ((nI_eq (a := (cel (S t) k)) (b := (cel (B t) k)) (Nat.lt_trans (cel_lt _ _) (by decide)) (Nat.lt_trans (cel_lt _ _) (by decide))).mpr z)
                refine lv_iconst (v := nI 1) hx hb dX4_settle_47 (by decide) ?_
                refine lv_goto (tgt := 52) hx hb dX4_settle_48 (by decide) ?_
                refine lv_istore (lv' := [(5, .int (nI 1)), (0, .ref (q 0)), (1, .int (nI w2)), (2, .int (nI t)), (3, .int (gb (P))), (4, .int (nI k))]) hx hb dX4_settle_52 hl (by decide) rfl (fun ls hl => ?_)
                refine lv_iload_n hx hb dX4_settle_54 rfl (lv_at hl 4 rfl) ?_
                refine lv_if_ne (tgt := 63) hx hb dX4_settle_55 (by decide) (fun c_55 => ?_) (fun c_55 => ?_)
                · skip
                  have c_55 : P := gb_ne0.mp c_55
                  refine lv_iconst (v := nI 1) hx hb dX4_settle_63 (by decide) ?_
                  refine g_ti (y := gb (True)) ((gb_t trivial).symm) ?_
                  refine lv_goto (tgt := 68) hx hb dX4_settle_64 (by decide) ?_
                  refine lv_istore_n (lv' := [(3, .int (gb (True))), (5, .int (nI 1)), (0, .ref (q 0)), (1, .int (nI w2)), (2, .int (nI t)), (4, .int (nI k))]) hx hb dX4_settle_68 rfl hl (by decide) rfl (fun ls hl => ?_)
                  refine lv_iload_n hx hb dX4_settle_69 rfl (lv_at hl 3 rfl) ?_
                  refine lv_iload hx hb dX4_settle_70 (lv_at hl 1 rfl) ?_
                  refine lv_if_eq (tgt := 79) hx hb dX4_settle_72 (by decide) (fun c_72 => ?_) (fun c_72 => ?_)
                  · skip
                    have c_72 : 1 = 0 := (nI_eq (a := 1) (b := 0) (by omega) (by omega)).mp c_72
                    exact absurd c_72 (by decide)
                  · skip
                    have c_72 : ¬ 1 = 0 := fun z => c_72 ((nI_eq (a := 1) (b := 0) (by omega) (by omega)).mpr z)
                    refine lv_iconst (v := nI 1) hx hb dX4_settle_75 (by decide) ?_
                    refine lv_goto (tgt := 80) hx hb dX4_settle_76 (by decide) ?_
                    refine lv_iadd hx hb dX4_settle_80 ?_
                    refine g_ti (y := nI (w2 + 1)) (nI_add _ _) ?_
                    refine lv_istore_n (lv' := [(1, .int (nI (w2 + 1))), (3, .int (gb (True))), (5, .int (nI 1)), (0, .ref (q 0)), (2, .int (nI t)), (4, .int (nI k))]) hx hb dX4_settle_81 rfl hl (by decide) rfl (fun ls hl => ?_)
                    refine lv_iinc (v := nI (k + 1)) (lv' := [(4, .int (nI (k + 1))), (1, .int (nI (w2 + 1))), (3, .int (gb (True))), (5, .int (nI 1)), (0, .ref (q 0)), (2, .int (nI t))]) hx hb dX4_settle_82 hl (k := 5) rfl (nI_1 _) (by decide) rfl (fun ls hl => ?_)
                    refine lv_goto (tgt := 15) hx hb dX4_settle_85 (by decide) ?_
                    exact ih_15 (k + 1) (w2 + 1) True (by omega) (by omega) (by rw [dif_s, hw2]; first | (rw [if_pos c_44.symm]; done) | (rw [if_neg (fun e => c_44 e.symm)]; done) | (rw [if_pos c_44.symm]; omega) | (rw [if_neg (fun e => c_44 e.symm)]; omega)) (by first | exact iff_of_true trivial (dif_t (hP9.mp (by assumption))) | exact iff_of_true trivial (dif_ne (fun e => c_44 e.symm)) | exact iff_of_false id (dif_no (fun z => absurd (hP9.mpr z) (by assumption)) c_44.symm)) _ _ _ (hP.sub [0, 1, 2, 3, 4, 5] rfl) (hD.sub [0, 1, 2, 3, 4, 5] (by decide) rfl) hS (lv_sub hl [4, 1, 5, 2, 0] rfl)
                · skip
                  have c_55 : ¬ (P) := gb_eq0.mp c_55
                  refine lv_iload hx hb dX4_settle_58 (lv_at hl 0 rfl) ?_
                  refine lv_if_eq (tgt := 67) hx hb dX4_settle_60 (by decide) (fun c_60 => ?_) (fun c_60 => ?_)
                  · skip
                    have c_60 : 1 = 0 := (nI_eq (a := 1) (b := 0) (by omega) (by omega)).mp c_60
                    exact absurd c_60 (by decide)
                  · skip
                    have c_60 : ¬ 1 = 0 := fun z => c_60 ((nI_eq (a := 1) (b := 0) (by omega) (by omega)).mpr z)
                    refine lv_iconst (v := nI 1) hx hb dX4_settle_63 (by decide) ?_
                    refine g_ti (y := gb (True)) ((gb_t trivial).symm) ?_
                    refine lv_goto (tgt := 68) hx hb dX4_settle_64 (by decide) ?_
                    refine lv_istore_n (lv' := [(3, .int (gb (True))), (5, .int (nI 1)), (0, .ref (q 0)), (1, .int (nI w2)), (2, .int (nI t)), (4, .int (nI k))]) hx hb dX4_settle_68 rfl hl (by decide) rfl (fun ls hl => ?_)
                    refine lv_iload_n hx hb dX4_settle_69 rfl (lv_at hl 3 rfl) ?_
                    refine lv_iload hx hb dX4_settle_70 (lv_at hl 1 rfl) ?_
                    refine lv_if_eq (tgt := 79) hx hb dX4_settle_72 (by decide) (fun c_72 => ?_) (fun c_72 => ?_)
                    · skip
                      have c_72 : 1 = 0 := (nI_eq (a := 1) (b := 0) (by omega) (by omega)).mp c_72
                      exact absurd c_72 (by decide)
                    · skip
                      have c_72 : ¬ 1 = 0 := fun z => c_72 ((nI_eq (a := 1) (b := 0) (by omega) (by omega)).mpr z)
                      refine lv_iconst (v := nI 1) hx hb dX4_settle_75 (by decide) ?_
                      refine lv_goto (tgt := 80) hx hb dX4_settle_76 (by decide) ?_
                      refine lv_iadd hx hb dX4_settle_80 ?_
                      refine g_ti (y := nI (w2 + 1)) (nI_add _ _) ?_
                      refine lv_istore_n (lv' := [(1, .int (nI (w2 + 1))), (3, .int (gb (True))), (5, .int (nI 1)), (0, .ref (q 0)), (2, .int (nI t)), (4, .int (nI k))]) hx hb dX4_settle_81 rfl hl (by decide) rfl (fun ls hl => ?_)
                      refine lv_iinc (v := nI (k + 1)) (lv' := [(4, .int (nI (k + 1))), (1, .int (nI (w2 + 1))), (3, .int (gb (True))), (5, .int (nI 1)), (0, .ref (q 0)), (2, .int (nI t))]) hx hb dX4_settle_82 hl (k := 5) rfl (nI_1 _) (by decide) rfl (fun ls hl => ?_)
                      refine lv_goto (tgt := 15) hx hb dX4_settle_85 (by decide) ?_
                      exact ih_15 (k + 1) (w2 + 1) True (by omega) (by omega) (by rw [dif_s, hw2]; first | (rw [if_pos c_44.symm]; done) | (rw [if_neg (fun e => c_44 e.symm)]; done) | (rw [if_pos c_44.symm]; omega) | (rw [if_neg (fun e => c_44 e.symm)]; omega)) (by first | exact iff_of_true trivial (dif_t (hP9.mp (by assumption))) | exact iff_of_true trivial (dif_ne (fun e => c_44 e.symm)) | exact iff_of_false id (dif_no (fun z => absurd (hP9.mpr z) (by assumption)) c_44.symm)) _ _ _ (hP.sub [0, 1, 2, 3, 4, 5] rfl) (hD.sub [0, 1, 2, 3, 4, 5] (by decide) rfl) hS (lv_sub hl [4, 1, 5, 2, 0] rfl)
        exact loop_15 ((16 - 0) + 1) 0 w False (Nat.lt_succ_self _) (by omega) rfl ⟨fun h => h.elim, fun h => absurd h (Nat.lt_irrefl 0)⟩ _ _ _ (hP.sub [0, 1, 2, 3, 4, 5] rfl) (hD.sub [0, 1, 2, 3, 4, 5] (by decide) rfl) hS (lv_sub hl [2, 3, 4, 1, 0] rfl)
  exact loop_4 ((12 - 0) + 1) 0 0 d mn (Nat.lt_succ_self _) (by omega) rfl (rows_cong hr9 (fun _ _ => rfl)) _ _ _ (hP.sub [0, 1, 2, 3, 4, 5] rfl) (hD.sub [0, 1, 2, 3, 4, 5] (by decide) rfl) hS (lv_sub hl [2, 1, 0] rfl)
theorem dm_succ {w : Nat} (hw : 0 < w) (k : Nat) : (k % w + 1 < w ∧ (k + 1) / w = k / w ∧ (k + 1) % w = k % w + 1) ∨ (k % w + 1 = w ∧ (k + 1) / w = k / w + 1 ∧ (k + 1) % w = 0) := by
  have h1 := Nat.div_add_mod k w
  have h2 := Nat.mod_lt k hw
  rcases Nat.lt_or_ge (k % w + 1) w with h | h
  · refine Or.inl ⟨h, ?_, ?_⟩
    · refine Nat.div_eq_of_lt_le ?_ ?_
      · rw [Nat.mul_comm]; omega
      · rw [Nat.mul_comm, Nat.mul_add, Nat.mul_one]; omega
    · have e : k + 1 = w * (k / w) + (k % w + 1) := by omega
      rw [e, Nat.mul_add_mod, Nat.mod_eq_of_lt h]
  · have h3 : k % w + 1 = w := by omega
    have e : k + 1 = w * (k / w + 1) := by rw [Nat.mul_add, Nat.mul_one]; omega
    refine Or.inr ⟨h3, ?_, ?_⟩
    · rw [e, Nat.mul_div_cancel_left _ hw]
    · rw [e, Nat.mul_mod_right]
theorem hV_eq {arr : Nat → Int32} {v v' : Nat → Nat → Nat} (h : hV arr v) (e : ∀ c r, c < 16 → r < 12 → v c r = v' c r) : hV arr v' := fun c r hc hr => by rw [h c r hc hr, e c r hc hr]
/-- a cell of the model's screen painted -/
theorem hV_up {arr : Nat → Int32} {v v' : Nat → Nat → Nat} {x y n : Nat} (h : hV arr v) (hx : x < 16) (e1 : v' x y = n) (e2 : ∀ c r, c < 16 → r < 12 → ¬ (c = x ∧ r = y) → v' c r = v c r) : hV (upd arr (16 * y + x) (nI n)) v' := fun c r hc hr => by
  by_cases z : c = x ∧ r = y
  · rw [z.1, z.2, pk_us, e1]
  · rw [pk_un (by omega), e2 c r hc hr z]; exact h c r hc hr
theorem fill_step {S : Nat → Int64} {arr : Nat → Int32} {c r w v k : Nat} (hw : 0 < w) (hcw : w + c ≤ 16) (h : hV arr (valF S c r w v (r + k / w) (c + k % w))) : hV (upd arr (16 * (r + k / w) + (c + k % w)) (nI v)) (valF S c r w v (r + (k + 1) / w) (c + (k + 1) % w)) := by
  have hm := Nat.mod_lt k hw
  generalize hq : k / w = y at *
  generalize hp : k % w = x at *
  rcases dm_succ hw k with ⟨a1, a2, a3⟩ | ⟨a1, a2, a3⟩
  · rw [a2, a3, hq, hp]
    refine hV_up h (by omega) ?_ (fun c' r' hc hr z => ?_)
    · unfold valF; rw [if_pos (by omega)]
    · unfold valF
      by_cases z2 : (c ≤ c' ∧ c' < c + w ∧ r ≤ r' ∧ r' < r + y) ∨ (r' = r + y ∧ c ≤ c' ∧ c' < c + x)
      · rw [if_pos z2, if_pos (by omega)]
      · rw [if_neg z2, if_neg (by omega)]
  · rw [a2, a3, hq]
    rw [hp] at a1
    refine hV_up h (by omega) ?_ (fun c' r' hc hr z => ?_)
    · unfold valF; rw [if_pos (by omega)]
    · unfold valF
      by_cases z2 : (c ≤ c' ∧ c' < c + w ∧ r ≤ r' ∧ r' < r + y) ∨ (r' = r + y ∧ c ≤ c' ∧ c' < c + x)
      · rw [if_pos z2, if_pos (by omega)]
      · rw [if_neg z2, if_neg (by omega)]
theorem valF_fin {S : Nat → Int64} {c r w m v : Nat} (hw : 0 < w) : ∀ c' r', c' < 16 → r' < 12 → valF S c r w v (r + w * m / w) (c + w * m % w) c' r' = finF S c r w m v c' r' := fun c' r' hc hr => by
  rw [Nat.mul_div_cancel_left _ hw, Nat.mul_mod_right, Nat.add_zero]
  unfold valF finF
  by_cases z : c ≤ c' ∧ c' < c + w ∧ r ≤ r' ∧ r' < r + m
  · rw [if_pos z, if_pos (by omega)]
  · rw [if_neg z, if_neg (by omega)]
theorem div_lt9 {k w m : Nat} (h : k < w * m) : k / w < m := Nat.div_lt_of_lt_mul h
theorem mul_le9 {w m : Nat} (h1 : w ≤ 16) (h2 : m ≤ 12) : w * m ≤ 192 := Nat.mul_le_mul h1 h2
theorem valC_st {S : Nat → Int64} {c r w y x X Y : Nat} {dx dy : Int} (hX : (X : Int) = x + dx) (hY : (Y : Int) = y + dy) (hcx : c ≤ x) : valC S c r w y (x + 1) dx dy X Y = at2 S x y ∧ ∀ c' r', ¬ (c' = X ∧ r' = Y) → valC S c r w y (x + 1) dx dy c' r' = valC S c r w y x dx dy c' r' := by
  constructor
  · unfold valC
    rw [if_pos (Or.inr ⟨by omega, by omega, by omega⟩)]
    have e1 : ((X : Int) - dx).toNat = x := by omega
    have e2 : ((Y : Int) - dy).toNat = y := by omega
    show at2 S _ _ = _
    rw [e1, e2]
  · intro c' r' z
    unfold valC
    by_cases z2 : ((c : Int) ≤ c' - dx ∧ c' - dx < c + w ∧ r ≤ r' - dy ∧ r' - dy < y) ∨ (r' - dy = y ∧ (c : Int) ≤ c' - dx ∧ c' - dx < x)
    · rw [if_pos z2, if_pos (by omega)]
    · rw [if_neg z2, if_neg (by omega)]
theorem valC_yy {S : Nat → Int64} {c r w y x : Nat} {dx dy : Int} (hx : x = c + w) (hy : r ≤ y) (c' r' : Nat) : valC S c r w (y + 1) c dx dy c' r' = valC S c r w y x dx dy c' r' := by
  unfold valC
  by_cases z2 : ((c : Int) ≤ c' - dx ∧ c' - dx < c + w ∧ r ≤ r' - dy ∧ r' - dy < y) ∨ (r' - dy = y ∧ (c : Int) ≤ c' - dx ∧ c' - dx < x)
  · rw [if_pos z2, if_pos (by omega)]
  · rw [if_neg z2, if_neg (by omega)]
theorem copy_end {S : Nat → Int64} {c r w k : Nat} {dx dy : Int} (hw : 0 < w) (c' r' : Nat) : valC S c r w (r + (k + 1) / w) (c + (k + 1) % w) dx dy c' r' = valC S c r w (r + k / w) (c + k % w + 1) dx dy c' r' := by
  rcases dm_succ hw k with ⟨a1, a2, a3⟩ | ⟨a1, a2, a3⟩
  · rw [a2, a3]; rfl
  · rw [a2, a3, Nat.add_zero]
    exact valC_yy (y := r + k / w) (x := c + k % w + 1) (by omega) (Nat.le_add_right _ _) c' r'
theorem copy_step {S : Nat → Int64} {arr : Nat → Int32} {c r w k X Y : Nat} {dx dy : Int} (hw : 0 < w) (hX : (X : Int) = (c + k % w : Nat) + dx) (hY : (Y : Int) = (r + k / w : Nat) + dy) (hX6 : X < 16) (h : hV arr (valC S c r w (r + k / w) (c + k % w) dx dy)) : hV (upd arr (16 * Y + X) (nI (at2 S (c + k % w) (r + k / w)))) (valC S c r w (r + (k + 1) / w) (c + (k + 1) % w) dx dy) := by
  have hs := valC_st (S := S) (c := c) (r := r) (w := w) hX hY (Nat.le_add_right c (k % w))
  refine hV_up h hX6 ((copy_end hw X Y).trans hs.1) (fun c' r' hc hr z => (copy_end hw c' r').trans (hs.2 c' r' z))
theorem copy_skip {S : Nat → Int64} {arr : Nat → Int32} {c r w k : Nat} {dx dy : Int} (hw : 0 < w) (ho : ¬ (0 ≤ ((c + k % w : Nat) : Int) + dx ∧ ((c + k % w : Nat) : Int) + dx < 16 ∧ 0 ≤ ((r + k / w : Nat) : Int) + dy ∧ ((r + k / w : Nat) : Int) + dy < 12)) (h : hV arr (valC S c r w (r + k / w) (c + k % w) dx dy)) : hV arr (valC S c r w (r + (k + 1) / w) (c + (k + 1) % w) dx dy) := by
  refine hV_eq h (fun c' r' hc hr => ((copy_end hw c' r').trans ?_).symm)
  unfold valC
  by_cases z2 : ((c : Int) ≤ c' - dx ∧ c' - dx < c + w ∧ r ≤ r' - dy ∧ r' - dy < (r + k / w : Nat)) ∨ (r' - dy = (r + k / w : Nat) ∧ (c : Int) ≤ c' - dx ∧ c' - dx < (c + k % w : Nat))
  · rw [if_pos z2, if_pos (by omega)]
  · rw [if_neg z2, if_neg (by omega)]
theorem valC_fin {S : Nat → Int64} {c r w m : Nat} {dx dy : Int} (hw : 0 < w) : ∀ c' r', c' < 16 → r' < 12 → valC S c r w (r + w * m / w) (c + w * m % w) dx dy c' r' = finC S c r w m dx dy c' r' := fun c' r' hc hr => by
  rw [Nat.mul_div_cancel_left _ hw, Nat.mul_mod_right, Nat.add_zero]
  unfold valC finC
  by_cases z : (c : Int) ≤ c' - dx ∧ c' - dx < c + w ∧ r ≤ r' - dy ∧ r' - dy < r + m
  · rw [if_pos z, if_pos (by omega)]
  · rw [if_neg z, if_neg (by omega)]
set_option maxHeartbeats 4000000 in
set_option maxRecDepth 100000 in
theorem c_X4_fill_b (l : Launch) (D : va_G) (cy : Nat → ClassId) (sz : Nat) (q : Nat → Nat) (T U : Int32) (c r w h v : Int32) (hn : ¬ (pBox c r w h ∧ pIn v 0 15)) : Met l yX4_fill wsX4_fill ({ frames := 3, cells := 0, slots := 0, locals := 66 } : Room) (va_Pc [.ref (q 0), .int c, .int r, .int w, .int h, .int v] (gI D (gT cy) [(q 0, eMod T q U)] sz)) (va_Qi (fun (r9 : Int32) (u : Unit) => r9 = nI 0 ∧ ((True))) (gO D (fun u : Unit => [(q 0, eMod (nI 1) q U)]) (va_A [(q 0, eMod T q U)] sz)) (va_A [(q 0, eMod T q U)] sz)) 0 0 (va_A [(q 0, eMod T q U)] sz) := by
  refine gW_i (cc := cX4_fill) (maxL := 7) (ty := .int) (by decide) rfl (Nat.le_of_ble_eq_true rfl) (fun v u hv => by rfl) ?_
  intro pp ee ss mm bw mt cd QQ AA ls hfx hP hG hD hA hret hl
  have hS : va_S AA ss.heap ss.heap [] := va_S.rf
  obtain ⟨H, eH⟩ : ∃ H, H = ss.heap := ⟨_, rfl⟩
  obtain ⟨locs, eL⟩ : ∃ L : List Loc, L = [] := ⟨_, rfl⟩
  have hP : va_P D vwCl [(q 0, eMod T q U)] H := by rw [eH]; exact hP
  have hS : va_S AA ss.heap H locs := by rw [eH, eL]; exact hS
  have goal : ∀ X Y, X = H → Y = locs → W pp l ee ({ frames := 3, cells := 0, slots := 0, locals := 66 } : Room) ss mm ([.ref (q 0), .int c, .int r, .int w, .int h, .int v] : List Value).toArray bw mt cd X Y 0 0 QQ (F0 mm 0 ls []) → W pp l ee ({ frames := 3, cells := 0, slots := 0, locals := 66 } : Room) ss mm ([.ref (q 0), .int c, .int r, .int w, .int h, .int v] : List Value).toArray bw mt cd ss.heap [] 0 0 QQ (F0 mm 0 ls []) := fun X Y hX hY h => by rw [hX, hY, eH, eL] at h; exact h
  refine goal H locs rfl rfl ?_
  clear goal eH eL
  obtain ⟨hx, hb, hml, hown, hts, hlocks⟩ := hfx
  have hown : ss.vm.findClass RX4 = some mm.cls := hown
  have hl : lv_has ls 7 [(0, .ref (q 0)), (1, .int c), (2, .int r), (3, .int w), (4, .int h), (5, .int v)] := hl
  refine lv_aload_n hx hb dX4_fill_0 rfl (lv_at hl 0 rfl) ?_
  refine lv_iload_n hx hb dX4_fill_1 rfl (lv_at hl 1 rfl) ?_
  refine lv_iload_n hx hb dX4_fill_2 rfl (lv_at hl 2 rfl) ?_
  refine lv_iload_n hx hb dX4_fill_3 rfl (lv_at hl 3 rfl) ?_
  refine lv_iload hx hb dX4_fill_4 (lv_at hl 4 rfl) ?_
  refine gc_Si (va_runS (As := [.int c, .int r, .int w, .int h]) (rest := [.ref (q 0)]) ⟨hx, hb, hml, hown, hts⟩ (c_X4_isBox l D cy c r w h) (va_cwS 4 hts gX4_fill_X4_isBox rfl rfl rfl (by decide +kernel) ⟨Nat.le_of_ble_eq_true rfl, Nat.le_of_ble_eq_true rfl⟩) (gpSR hG (hP.sub [] rfl)) rfl rfl hl.1 rfl (lv_room (Nat.le_of_ble_eq_true rfl)) dX4_fill_6 ⟨Nat.zero_le _, Nat.zero_le _⟩) ?_
  refine lv_if_eq (tgt := 27) hx hb dX4_fill_9 (by decide) (fun c_9 => ?_) (fun c_9 => ?_)
  · skip
    have c_9 : ¬ (pBox c r w h) := gb_eq0.mp c_9
    refine lv_iconst (v := nI 1) hx hb dX4_fill_27 (by decide) ?_
    refine gc_Wi (wn := fun u => [(q 0, eMod (nI 1) q U)]) (wr := []) (va_runV (As := [.int (nI 1)]) (rest := []) ⟨hx, hb, hml, hown, hts⟩ (c_X4_goesWell l D cy H.size q T U 1 (by decide)) (cwV 1 hts gX4_fill_X4_goesWell rfl rfl rfl (by decide +kernel) ⟨Nat.le_of_ble_eq_true rfl, Nat.le_of_ble_eq_true rfl⟩) (gpVI (ci := 4) (q0 := 0) hG (hP.sub [0] rfl) (hD.sub [0] (by decide) rfl) rfl rfl) rfl rfl hl.1 rfl (lv_room (Nat.le_of_ble_eq_true rfl)) dX4_fill_28 ⟨Nat.zero_le _, Nat.zero_le _⟩) hP hD hS hA [0] [] [0] rfl rfl (by decide) (by decide) (fun _ => rfl) (by decide) (fun r_28 _u H locs hw_28 hP hD hS => ?_)
    have hP : va_P D vwCl [(q 0, eMod (nI 1) q U)] H := hP
    have hD : va_D AA [(q 0, eMod (nI 1) q U)] := hD
    obtain ⟨hr_28, hw_28⟩ := hw_28
    refine g_ti (y := gb (1 = 0)) hr_28 ?_
    have hw_28 : True := hw_28
    refine lv_if_ne (tgt := 36) hx hb dX4_fill_31 (by decide) (fun c_31 => ?_) (fun c_31 => ?_)
    · skip
      have c_31 : 1 = 0 := gb_ne0.mp c_31
      exact absurd c_31 (by decide)
    · skip
      have c_31 : ¬ (1 = 0) := gb_eq0.mp c_31
      refine lv_iconst (v := nI 0) hx hb dX4_fill_34 (by decide) ?_
      exact hret _ _ _ _ _ () dX4_fill_35 (⟨rfl, trivial⟩) (hP.sub [0] rfl) (hD.sub [0] (by decide) rfl) hS
  · skip
    have c_9 : pBox c r w h := gb_ne0.mp c_9
    refine lv_iload hx hb dX4_fill_12 (lv_at hl 5 rfl) ?_
    refine lv_iconst (v := nI 0) hx hb dX4_fill_14 (by decide) ?_
    refine lv_bipush (v := nI 15) hx hb dX4_fill_15 (by decide) ?_
    refine gc_Si (va_runS (As := [.int v, .int (nI 0), .int (nI 15)]) (rest := [.ref (q 0)]) ⟨hx, hb, hml, hown, hts⟩ (c_X4_in l D cy v (nI 0) (nI 15)) (va_cwS 3 hts gX4_fill_X4_in rfl rfl rfl (by decide +kernel) ⟨Nat.le_of_ble_eq_true rfl, Nat.le_of_ble_eq_true rfl⟩) (gpSR hG (hP.sub [] rfl)) rfl rfl hl.1 rfl (lv_room (Nat.le_of_ble_eq_true rfl)) dX4_fill_17 ⟨Nat.zero_le _, Nat.zero_le _⟩) ?_
    refine g_ti (y := gb (pIn v 0 15)) ((congrArg (fun z => gb (pIn v z (nI 15 : Int32).toInt)) (by decide : (nI 0 : Int32).toInt = 0)).trans (congrArg (fun z => gb (pIn v 0 z)) (by decide : (nI 15 : Int32).toInt = 15))) ?_
    refine lv_if_eq (tgt := 27) hx hb dX4_fill_20 (by decide) (fun c_20 => ?_) (fun c_20 => ?_)
    · skip
      have c_20 : ¬ (pIn v 0 15) := gb_eq0.mp c_20
      refine lv_iconst (v := nI 1) hx hb dX4_fill_27 (by decide) ?_
      refine gc_Wi (wn := fun u => [(q 0, eMod (nI 1) q U)]) (wr := []) (va_runV (As := [.int (nI 1)]) (rest := []) ⟨hx, hb, hml, hown, hts⟩ (c_X4_goesWell l D cy H.size q T U 1 (by decide)) (cwV 1 hts gX4_fill_X4_goesWell rfl rfl rfl (by decide +kernel) ⟨Nat.le_of_ble_eq_true rfl, Nat.le_of_ble_eq_true rfl⟩) (gpVI (ci := 4) (q0 := 0) hG (hP.sub [0] rfl) (hD.sub [0] (by decide) rfl) rfl rfl) rfl rfl hl.1 rfl (lv_room (Nat.le_of_ble_eq_true rfl)) dX4_fill_28 ⟨Nat.zero_le _, Nat.zero_le _⟩) hP hD hS hA [0] [] [0] rfl rfl (by decide) (by decide) (fun _ => rfl) (by decide) (fun r_28 _u H locs hw_28 hP hD hS => ?_)
      have hP : va_P D vwCl [(q 0, eMod (nI 1) q U)] H := hP
      have hD : va_D AA [(q 0, eMod (nI 1) q U)] := hD
      obtain ⟨hr_28, hw_28⟩ := hw_28
      refine g_ti (y := gb (1 = 0)) hr_28 ?_
      have hw_28 : True := hw_28
      refine lv_if_ne (tgt := 36) hx hb dX4_fill_31 (by decide) (fun c_31 => ?_) (fun c_31 => ?_)
      · skip
        have c_31 : 1 = 0 := gb_ne0.mp c_31
        exact absurd c_31 (by decide)
      · skip
        have c_31 : ¬ (1 = 0) := gb_eq0.mp c_31
        refine lv_iconst (v := nI 0) hx hb dX4_fill_34 (by decide) ?_
        exact hret _ _ _ _ _ () dX4_fill_35 (⟨rfl, trivial⟩) (hP.sub [0] rfl) (hD.sub [0] (by decide) rfl) hS
    · skip
      have c_20 : pIn v 0 15 := gb_ne0.mp c_20
      exact absurd c_20 (fun z => hn ⟨c_9, z⟩)
set_option maxHeartbeats 4000000 in
set_option maxRecDepth 100000 in
theorem c_X4_copy_b (l : Launch) (D : va_G) (cy : Nat → ClassId) (sz : Nat) (q : Nat → Nat) (T U : Int32) (c r w h x y : Int32) (hn : ¬ (pBox c r w h ∧ pIn x (-15) 15 ∧ pIn y (-11) 11)) : Met l yX4_copy wsX4_copy ({ frames := 3, cells := 0, slots := 0, locals := 66 } : Room) (va_Pc [.ref (q 0), .int c, .int r, .int w, .int h, .int x, .int y] (gI D (gT cy) [(q 0, eMod T q U)] sz)) (va_Qi (fun (r9 : Int32) (u : Unit) => r9 = nI 0 ∧ ((True))) (gO D (fun u : Unit => [(q 0, eMod (nI 1) q U)]) (va_A [(q 0, eMod T q U)] sz)) (va_A [(q 0, eMod T q U)] sz)) 0 0 (va_A [(q 0, eMod T q U)] sz) := by
  refine gW_i (cc := cX4_copy) (maxL := 10) (ty := .int) (by decide) rfl (Nat.le_of_ble_eq_true rfl) (fun v u hv => by rfl) ?_
  intro pp ee ss mm bw mt cd QQ AA ls hfx hP hG hD hA hret hl
  have hS : va_S AA ss.heap ss.heap [] := va_S.rf
  obtain ⟨H, eH⟩ : ∃ H, H = ss.heap := ⟨_, rfl⟩
  obtain ⟨locs, eL⟩ : ∃ L : List Loc, L = [] := ⟨_, rfl⟩
  have hP : va_P D vwCl [(q 0, eMod T q U)] H := by rw [eH]; exact hP
  have hS : va_S AA ss.heap H locs := by rw [eH, eL]; exact hS
  have goal : ∀ X Y, X = H → Y = locs → W pp l ee ({ frames := 3, cells := 0, slots := 0, locals := 66 } : Room) ss mm ([.ref (q 0), .int c, .int r, .int w, .int h, .int x, .int y] : List Value).toArray bw mt cd X Y 0 0 QQ (F0 mm 0 ls []) → W pp l ee ({ frames := 3, cells := 0, slots := 0, locals := 66 } : Room) ss mm ([.ref (q 0), .int c, .int r, .int w, .int h, .int x, .int y] : List Value).toArray bw mt cd ss.heap [] 0 0 QQ (F0 mm 0 ls []) := fun X Y hX hY h => by rw [hX, hY, eH, eL] at h; exact h
  refine goal H locs rfl rfl ?_
  clear goal eH eL
  obtain ⟨hx, hb, hml, hown, hts, hlocks⟩ := hfx
  have hown : ss.vm.findClass RX4 = some mm.cls := hown
  have hl : lv_has ls 10 [(0, .ref (q 0)), (1, .int c), (2, .int r), (3, .int w), (4, .int h), (5, .int x), (6, .int y)] := hl
  refine lv_aload_n hx hb dX4_copy_0 rfl (lv_at hl 0 rfl) ?_
  refine lv_iload_n hx hb dX4_copy_1 rfl (lv_at hl 1 rfl) ?_
  refine lv_iload_n hx hb dX4_copy_2 rfl (lv_at hl 2 rfl) ?_
  refine lv_iload_n hx hb dX4_copy_3 rfl (lv_at hl 3 rfl) ?_
  refine lv_iload hx hb dX4_copy_4 (lv_at hl 4 rfl) ?_
  refine gc_Si (va_runS (As := [.int c, .int r, .int w, .int h]) (rest := [.ref (q 0)]) ⟨hx, hb, hml, hown, hts⟩ (c_X4_isBox l D cy c r w h) (va_cwS 4 hts gX4_copy_X4_isBox rfl rfl rfl (by decide +kernel) ⟨Nat.le_of_ble_eq_true rfl, Nat.le_of_ble_eq_true rfl⟩) (gpSR hG (hP.sub [] rfl)) rfl rfl hl.1 rfl (lv_room (Nat.le_of_ble_eq_true rfl)) dX4_copy_6 ⟨Nat.zero_le _, Nat.zero_le _⟩) ?_
  refine lv_if_eq (tgt := 40) hx hb dX4_copy_9 (by decide) (fun c_9 => ?_) (fun c_9 => ?_)
  · skip
    have c_9 : ¬ (pBox c r w h) := gb_eq0.mp c_9
    refine lv_iconst (v := nI 1) hx hb dX4_copy_40 (by decide) ?_
    refine gc_Wi (wn := fun u => [(q 0, eMod (nI 1) q U)]) (wr := []) (va_runV (As := [.int (nI 1)]) (rest := []) ⟨hx, hb, hml, hown, hts⟩ (c_X4_goesWell l D cy H.size q T U 1 (by decide)) (cwV 1 hts gX4_copy_X4_goesWell rfl rfl rfl (by decide +kernel) ⟨Nat.le_of_ble_eq_true rfl, Nat.le_of_ble_eq_true rfl⟩) (gpVI (ci := 4) (q0 := 0) hG (hP.sub [0] rfl) (hD.sub [0] (by decide) rfl) rfl rfl) rfl rfl hl.1 rfl (lv_room (Nat.le_of_ble_eq_true rfl)) dX4_copy_41 ⟨Nat.zero_le _, Nat.zero_le _⟩) hP hD hS hA [0] [] [0] rfl rfl (by decide) (by decide) (fun _ => rfl) (by decide) (fun r_41 _u H locs hw_41 hP hD hS => ?_)
    have hP : va_P D vwCl [(q 0, eMod (nI 1) q U)] H := hP
    have hD : va_D AA [(q 0, eMod (nI 1) q U)] := hD
    obtain ⟨hr_41, hw_41⟩ := hw_41
    refine g_ti (y := gb (1 = 0)) hr_41 ?_
    have hw_41 : True := hw_41
    refine lv_if_ne (tgt := 49) hx hb dX4_copy_44 (by decide) (fun c_44 => ?_) (fun c_44 => ?_)
    · skip
      have c_44 : 1 = 0 := gb_ne0.mp c_44
      exact absurd c_44 (by decide)
    · skip
      have c_44 : ¬ (1 = 0) := gb_eq0.mp c_44
      refine lv_iconst (v := nI 0) hx hb dX4_copy_47 (by decide) ?_
      exact hret _ _ _ _ _ () dX4_copy_48 (⟨rfl, trivial⟩) (hP.sub [0] rfl) (hD.sub [0] (by decide) rfl) hS
  · skip
    have c_9 : pBox c r w h := gb_ne0.mp c_9
    refine lv_iload hx hb dX4_copy_12 (lv_at hl 5 rfl) ?_
    refine lv_bipush (v := (-15)) hx hb dX4_copy_14 (by decide) ?_
    refine lv_bipush (v := nI 15) hx hb dX4_copy_16 (by decide) ?_
    refine gc_Si (va_runS (As := [.int x, .int ((-15)), .int (nI 15)]) (rest := [.ref (q 0)]) ⟨hx, hb, hml, hown, hts⟩ (c_X4_in l D cy x ((-15)) (nI 15)) (va_cwS 3 hts gX4_copy_X4_in rfl rfl rfl (by decide +kernel) ⟨Nat.le_of_ble_eq_true rfl, Nat.le_of_ble_eq_true rfl⟩) (gpSR hG (hP.sub [] rfl)) rfl rfl hl.1 rfl (lv_room (Nat.le_of_ble_eq_true rfl)) dX4_copy_18 ⟨Nat.zero_le _, Nat.zero_le _⟩) ?_
    refine g_ti (y := gb (pIn x (-15) 15)) ((congrArg (fun z => gb (pIn x z (nI 15 : Int32).toInt)) (by decide : ((-15) : Int32).toInt = (-15))).trans (congrArg (fun z => gb (pIn x (-15) z)) (by decide : (nI 15 : Int32).toInt = 15))) ?_
    refine lv_if_eq (tgt := 40) hx hb dX4_copy_21 (by decide) (fun c_21 => ?_) (fun c_21 => ?_)
    · skip
      have c_21 : ¬ (pIn x (-15) 15) := gb_eq0.mp c_21
      refine lv_iconst (v := nI 1) hx hb dX4_copy_40 (by decide) ?_
      refine gc_Wi (wn := fun u => [(q 0, eMod (nI 1) q U)]) (wr := []) (va_runV (As := [.int (nI 1)]) (rest := []) ⟨hx, hb, hml, hown, hts⟩ (c_X4_goesWell l D cy H.size q T U 1 (by decide)) (cwV 1 hts gX4_copy_X4_goesWell rfl rfl rfl (by decide +kernel) ⟨Nat.le_of_ble_eq_true rfl, Nat.le_of_ble_eq_true rfl⟩) (gpVI (ci := 4) (q0 := 0) hG (hP.sub [0] rfl) (hD.sub [0] (by decide) rfl) rfl rfl) rfl rfl hl.1 rfl (lv_room (Nat.le_of_ble_eq_true rfl)) dX4_copy_41 ⟨Nat.zero_le _, Nat.zero_le _⟩) hP hD hS hA [0] [] [0] rfl rfl (by decide) (by decide) (fun _ => rfl) (by decide) (fun r_41 _u H locs hw_41 hP hD hS => ?_)
      have hP : va_P D vwCl [(q 0, eMod (nI 1) q U)] H := hP
      have hD : va_D AA [(q 0, eMod (nI 1) q U)] := hD
      obtain ⟨hr_41, hw_41⟩ := hw_41
      refine g_ti (y := gb (1 = 0)) hr_41 ?_
      have hw_41 : True := hw_41
      refine lv_if_ne (tgt := 49) hx hb dX4_copy_44 (by decide) (fun c_44 => ?_) (fun c_44 => ?_)
      · skip
        have c_44 : 1 = 0 := gb_ne0.mp c_44
        exact absurd c_44 (by decide)
      · skip
        have c_44 : ¬ (1 = 0) := gb_eq0.mp c_44
        refine lv_iconst (v := nI 0) hx hb dX4_copy_47 (by decide) ?_
        exact hret _ _ _ _ _ () dX4_copy_48 (⟨rfl, trivial⟩) (hP.sub [0] rfl) (hD.sub [0] (by decide) rfl) hS
    · skip
      have c_21 : pIn x (-15) 15 := gb_ne0.mp c_21
      refine lv_iload hx hb dX4_copy_24 (lv_at hl 6 rfl) ?_
      refine lv_bipush (v := (-11)) hx hb dX4_copy_26 (by decide) ?_
      refine lv_bipush (v := nI 11) hx hb dX4_copy_28 (by decide) ?_
      refine gc_Si (va_runS (As := [.int y, .int ((-11)), .int (nI 11)]) (rest := [.ref (q 0)]) ⟨hx, hb, hml, hown, hts⟩ (c_X4_in l D cy y ((-11)) (nI 11)) (va_cwS 3 hts gX4_copy_X4_in rfl rfl rfl (by decide +kernel) ⟨Nat.le_of_ble_eq_true rfl, Nat.le_of_ble_eq_true rfl⟩) (gpSR hG (hP.sub [] rfl)) rfl rfl hl.1 rfl (lv_room (Nat.le_of_ble_eq_true rfl)) dX4_copy_30 ⟨Nat.zero_le _, Nat.zero_le _⟩) ?_
      refine g_ti (y := gb (pIn y (-11) 11)) ((congrArg (fun z => gb (pIn y z (nI 11 : Int32).toInt)) (by decide : ((-11) : Int32).toInt = (-11))).trans (congrArg (fun z => gb (pIn y (-11) z)) (by decide : (nI 11 : Int32).toInt = 11))) ?_
      refine lv_if_eq (tgt := 40) hx hb dX4_copy_33 (by decide) (fun c_33 => ?_) (fun c_33 => ?_)
      · skip
        have c_33 : ¬ (pIn y (-11) 11) := gb_eq0.mp c_33
        refine lv_iconst (v := nI 1) hx hb dX4_copy_40 (by decide) ?_
        refine gc_Wi (wn := fun u => [(q 0, eMod (nI 1) q U)]) (wr := []) (va_runV (As := [.int (nI 1)]) (rest := []) ⟨hx, hb, hml, hown, hts⟩ (c_X4_goesWell l D cy H.size q T U 1 (by decide)) (cwV 1 hts gX4_copy_X4_goesWell rfl rfl rfl (by decide +kernel) ⟨Nat.le_of_ble_eq_true rfl, Nat.le_of_ble_eq_true rfl⟩) (gpVI (ci := 4) (q0 := 0) hG (hP.sub [0] rfl) (hD.sub [0] (by decide) rfl) rfl rfl) rfl rfl hl.1 rfl (lv_room (Nat.le_of_ble_eq_true rfl)) dX4_copy_41 ⟨Nat.zero_le _, Nat.zero_le _⟩) hP hD hS hA [0] [] [0] rfl rfl (by decide) (by decide) (fun _ => rfl) (by decide) (fun r_41 _u H locs hw_41 hP hD hS => ?_)
        have hP : va_P D vwCl [(q 0, eMod (nI 1) q U)] H := hP
        have hD : va_D AA [(q 0, eMod (nI 1) q U)] := hD
        obtain ⟨hr_41, hw_41⟩ := hw_41
        refine g_ti (y := gb (1 = 0)) hr_41 ?_
        have hw_41 : True := hw_41
        refine lv_if_ne (tgt := 49) hx hb dX4_copy_44 (by decide) (fun c_44 => ?_) (fun c_44 => ?_)
        · skip
          have c_44 : 1 = 0 := gb_ne0.mp c_44
          exact absurd c_44 (by decide)
        · skip
          have c_44 : ¬ (1 = 0) := gb_eq0.mp c_44
          refine lv_iconst (v := nI 0) hx hb dX4_copy_47 (by decide) ?_
          exact hret _ _ _ _ _ () dX4_copy_48 (⟨rfl, trivial⟩) (hP.sub [0] rfl) (hD.sub [0] (by decide) rfl) hS
      · skip
        have c_33 : pIn y (-11) 11 := gb_ne0.mp c_33
        exact absurd c_33 (fun z => hn ⟨c_9, c_21, z⟩)
theorem iX4_fill_X4 : ∀ w ∈ wsX40, w ∈ wsX4_fill := by decide +kernel
set_option maxHeartbeats 4000000 in
set_option maxRecDepth 100000 in
theorem c_X4_fill (l : Launch) (D : va_G) (cy : Nat → ClassId) (sz : Nat) (q : Nat → Nat) (T U : Int32) (sc bf is d mn : Nat → Int32) (S S2 B : Nat → Int64) (J : Nat → Prop) (LL : Nat → List Nat) (c r w m v : Nat) (hs : hS S sc) (hB : ∀ k, k < 12 → B k = S k) (hj : ∀ c, c < 2 → is c = gb (J c)) (hr9 : rowsR LL d mn) (ho : ∀ c, c < 2 → okD (LL c)) (hc : c < 16) (hr : r < 12) (hw : 1 ≤ w ∧ w + c ≤ 16) (hh : 1 ≤ m ∧ m + r ≤ 12) (hv : v < 16) (hd9 : gD S2 (finF S c r w m v)) : Met l yX4_fill wsX4_fill ({ frames := 3, cells := 0, slots := 0, locals := 66 } : Room) (va_Pc [.ref (q 0), .int (nI c), .int (nI r), .int (nI w), .int (nI m), .int (nI v)] (gI D (gT cy) [(q 0, eMod T q U), (q 1, eI cy 192 sc), (q 2, eI cy 192 bf), (q 3, eZ cy 2 is), (q 9, eI cy 24 d), (q 10, eI cy 2 mn)] sz)) (va_Qi (fun (r9 : Int32) (u : (Nat → Int32) × (Nat → Int32) × (Nat → Int32) × (Nat → Int32)) => r9 = nI (sumD B S2 12) ∧ ((hS S2 u.1 ∧ rowsR (fun c => stlF (J c) B S2 (LL c) 12) u.2.2.1 u.2.2.2))) (gO D (fun u : (Nat → Int32) × (Nat → Int32) × (Nat → Int32) × (Nat → Int32) => [(q 0, eMod (nI 0) q U), (q 1, eI cy 192 u.1), (q 2, eI cy 192 u.2.1), (q 3, eZ cy 2 is), (q 9, eI cy 24 u.2.2.1), (q 10, eI cy 2 u.2.2.2)]) (va_A [(q 0, eMod T q U), (q 1, eI cy 192 sc), (q 2, eI cy 192 bf), (q 3, eZ cy 2 is), (q 9, eI cy 24 d), (q 10, eI cy 2 mn)] sz)) (va_A [(q 0, eMod T q U), (q 1, eI cy 192 sc), (q 2, eI cy 192 bf), (q 3, eZ cy 2 is), (q 9, eI cy 24 d), (q 10, eI cy 2 mn)] sz)) 0 0 (va_A [(q 0, eMod T q U), (q 1, eI cy 192 sc), (q 2, eI cy 192 bf), (q 3, eZ cy 2 is), (q 9, eI cy 24 d), (q 10, eI cy 2 mn)] sz) := by
  refine gW_i (cc := cX4_fill) (maxL := 7) (ty := .int) (by decide) rfl (Nat.le_of_ble_eq_true rfl) (fun v u hv => by rfl) ?_
  intro pp ee ss mm bw mt cd QQ AA ls hfx hP hG hD hA hret hl
  have hS : va_S AA ss.heap ss.heap [] := va_S.rf
  obtain ⟨H, eH⟩ : ∃ H, H = ss.heap := ⟨_, rfl⟩
  obtain ⟨locs, eL⟩ : ∃ L : List Loc, L = [] := ⟨_, rfl⟩
  have hP : va_P D vwCl [(q 0, eMod T q U), (q 1, eI cy 192 sc), (q 2, eI cy 192 bf), (q 3, eZ cy 2 is), (q 9, eI cy 24 d), (q 10, eI cy 2 mn)] H := by rw [eH]; exact hP
  have hS : va_S AA ss.heap H locs := by rw [eH, eL]; exact hS
  have goal : ∀ X Y, X = H → Y = locs → W pp l ee ({ frames := 3, cells := 0, slots := 0, locals := 66 } : Room) ss mm ([.ref (q 0), .int (nI c), .int (nI r), .int (nI w), .int (nI m), .int (nI v)] : List Value).toArray bw mt cd X Y 0 0 QQ (F0 mm 0 ls []) → W pp l ee ({ frames := 3, cells := 0, slots := 0, locals := 66 } : Room) ss mm ([.ref (q 0), .int (nI c), .int (nI r), .int (nI w), .int (nI m), .int (nI v)] : List Value).toArray bw mt cd ss.heap [] 0 0 QQ (F0 mm 0 ls []) := fun X Y hX hY h => by rw [hX, hY, eH, eL] at h; exact h
  refine goal H locs rfl rfl ?_
  clear goal eH eL
  obtain ⟨hx, hb, hml, hown, hts, hlocks⟩ := hfx
  have hown : ss.vm.findClass RX4 = some mm.cls := hown
  have hl : lv_has ls 7 [(0, .ref (q 0)), (1, .int (nI c)), (2, .int (nI r)), (3, .int (nI w)), (4, .int (nI m)), (5, .int (nI v))] := hl
  have z1 := mul_le9 (w := w) (m := m) (by omega) (by omega)
  refine lv_aload_n hx hb dX4_fill_0 rfl (lv_at hl 0 rfl) ?_
  refine lv_iload_n hx hb dX4_fill_1 rfl (lv_at hl 1 rfl) ?_
  refine lv_iload_n hx hb dX4_fill_2 rfl (lv_at hl 2 rfl) ?_
  refine lv_iload_n hx hb dX4_fill_3 rfl (lv_at hl 3 rfl) ?_
  refine lv_iload hx hb dX4_fill_4 (lv_at hl 4 rfl) ?_
  refine gc_Si (va_runS (As := [.int (nI c), .int (nI r), .int (nI w), .int (nI m)]) (rest := [.ref (q 0)]) ⟨hx, hb, hml, hown, hts⟩ (c_X4_isBox l D cy (nI c) (nI r) (nI w) (nI m)) (va_cwS 4 hts gX4_fill_X4_isBox rfl rfl rfl (by decide +kernel) ⟨Nat.le_of_ble_eq_true rfl, Nat.le_of_ble_eq_true rfl⟩) (gpSR hG (hP.sub [] rfl)) rfl rfl hl.1 rfl (lv_room (Nat.le_of_ble_eq_true rfl)) dX4_fill_6 ⟨Nat.zero_le _, Nat.zero_le _⟩) ?_
  refine lv_if_eq (tgt := 27) hx hb dX4_fill_9 (by decide) (fun c_9 => ?_) (fun c_9 => ?_)
  · skip
    have c_9 : ¬ (pBox (nI c) (nI r) (nI w) (nI m)) := gb_eq0.mp c_9
    exact absurd (ok_box hc hr hw hh) c_9
  · skip
    have c_9 : pBox (nI c) (nI r) (nI w) (nI m) := gb_ne0.mp c_9
    refine lv_iload hx hb dX4_fill_12 (lv_at hl 5 rfl) ?_
    refine lv_iconst (v := nI 0) hx hb dX4_fill_14 (by decide) ?_
    refine lv_bipush (v := nI 15) hx hb dX4_fill_15 (by decide) ?_
    refine gc_Si (va_runS (As := [.int (nI v), .int (nI 0), .int (nI 15)]) (rest := [.ref (q 0)]) ⟨hx, hb, hml, hown, hts⟩ (c_X4_in l D cy (nI v) (nI 0) (nI 15)) (va_cwS 3 hts gX4_fill_X4_in rfl rfl rfl (by decide +kernel) ⟨Nat.le_of_ble_eq_true rfl, Nat.le_of_ble_eq_true rfl⟩) (gpSR hG (hP.sub [] rfl)) rfl rfl hl.1 rfl (lv_room (Nat.le_of_ble_eq_true rfl)) dX4_fill_17 ⟨Nat.zero_le _, Nat.zero_le _⟩) ?_
    refine g_ti (y := gb (pIn (nI v) 0 15)) ((congrArg (fun z => gb (pIn (nI v) z (nI 15 : Int32).toInt)) (by decide : (nI 0 : Int32).toInt = 0)).trans (congrArg (fun z => gb (pIn (nI v) 0 z)) (by decide : (nI 15 : Int32).toInt = 15))) ?_
    refine lv_if_eq (tgt := 27) hx hb dX4_fill_20 (by decide) (fun c_20 => ?_) (fun c_20 => ?_)
    · skip
      have c_20 : ¬ (pIn (nI v) 0 15) := gb_eq0.mp c_20
      exact absurd (ok_idx (n := 15) (by omega) (by decide)) c_20
    · skip
      have c_20 : pIn (nI v) 0 15 := gb_ne0.mp c_20
      refine lv_iconst (v := nI 0) hx hb dX4_fill_23 (by decide) ?_
      refine lv_goto (tgt := 28) hx hb dX4_fill_24 (by decide) ?_
      refine gc_Wi (wn := fun u => [(q 0, eMod (nI 0) q U), (q 1, eI cy 192 sc), (q 2, eI cy 192 bf), (q 3, eZ cy 2 is), (q 9, eI cy 24 d), (q 10, eI cy 2 mn)]) (wr := [(q 1, eI cy 192 sc), (q 2, eI cy 192 bf), (q 3, eZ cy 2 is), (q 9, eI cy 24 d), (q 10, eI cy 2 mn)]) (va_runV (As := [.int (nI 0)]) (rest := []) ⟨hx, hb, hml, hown, hts⟩ (c_X4_goesWell l D cy H.size q T U 0 (by decide)) (cwV 1 hts gX4_fill_X4_goesWell rfl rfl rfl (by decide +kernel) ⟨Nat.le_of_ble_eq_true rfl, Nat.le_of_ble_eq_true rfl⟩) (gpVI (ci := 4) (q0 := 0) hG (hP.sub [0] rfl) (hD.sub [0] (by decide) rfl) rfl rfl) rfl rfl hl.1 rfl (lv_room (Nat.le_of_ble_eq_true rfl)) dX4_fill_28 ⟨Nat.zero_le _, Nat.zero_le _⟩) hP hD hS hA [0] [1, 2, 3, 4, 5] [5, 0, 1, 2, 3, 4] rfl rfl (by decide) (by decide) (fun _ => rfl) (by decide) (fun r_28 _u H locs hw_28 hP hD hS => ?_)
      have hP : va_P D vwCl [(q 0, eMod (nI 0) q U), (q 1, eI cy 192 sc), (q 2, eI cy 192 bf), (q 3, eZ cy 2 is), (q 9, eI cy 24 d), (q 10, eI cy 2 mn)] H := hP
      have hD : va_D AA [(q 0, eMod (nI 0) q U), (q 1, eI cy 192 sc), (q 2, eI cy 192 bf), (q 3, eZ cy 2 is), (q 9, eI cy 24 d), (q 10, eI cy 2 mn)] := hD
      obtain ⟨hr_28, hw_28⟩ := hw_28
      refine g_ti (y := gb (0 = 0)) hr_28 ?_
      have hw_28 : True := hw_28
      refine lv_if_ne (tgt := 36) hx hb dX4_fill_31 (by decide) (fun c_31 => ?_) (fun c_31 => ?_)
      · skip
        have c_31 : 0 = 0 := gb_ne0.mp c_31
        refine lv_aload_n hx hb dX4_fill_36 rfl (lv_at hl 0 rfl) ?_
        refine gc_Wv (wn := fun u => [(q 0, eMod (nI 0) q U), (q 1, eI cy 192 sc), (q 2, eI cy 192 u), (q 3, eZ cy 2 is), (q 9, eI cy 24 d), (q 10, eI cy 2 mn)]) (wr := [(q 3, eZ cy 2 is), (q 9, eI cy 24 d), (q 10, eI cy 2 mn)]) (va_runV (As := []) (rest := []) ⟨hx, hb, hml, hown, hts⟩ (c_X4_keep l D cy H.size q (nI 0) U sc bf) (cwV 0 hts gX4_fill_X4_keep rfl rfl rfl (by decide +kernel) ⟨Nat.le_of_ble_eq_true rfl, Nat.le_of_ble_eq_true rfl⟩) (gpVI (ci := 4) (q0 := 0) hG (hP.sub [0, 1, 2] rfl) (hD.sub [0, 1, 2] (by decide) rfl) rfl rfl) rfl rfl hl.1 rfl (lv_room (Nat.le_of_ble_eq_true rfl)) dX4_fill_37 ⟨Nat.zero_le _, Nat.zero_le _⟩) hP hD hS hA [0, 1, 2] [3, 4, 5] [3, 4, 5, 0, 1, 2] rfl rfl (by decide) (by decide) (fun _ => rfl) (by decide) (fun bf1 H locs hw_37 hP hD hS => ?_)
        have hP : va_P D vwCl [(q 0, eMod (nI 0) q U), (q 1, eI cy 192 sc), (q 2, eI cy 192 bf1), (q 3, eZ cy 2 is), (q 9, eI cy 24 d), (q 10, eI cy 2 mn)] H := hP
        have hD : va_D AA [(q 0, eMod (nI 0) q U), (q 1, eI cy 192 sc), (q 2, eI cy 192 bf1), (q 3, eZ cy 2 is), (q 9, eI cy 24 d), (q 10, eI cy 2 mn)] := hD
        have hw_37 : ∀ k, k < 192 → bf1 k = sc k := hw_37
        refine lv_iconst (v := nI 0) hx hb dX4_fill_40 (by decide) ?_
        refine lv_istore (lv' := [(6, .int (nI 0)), (0, .ref (q 0)), (1, .int (nI c)), (2, .int (nI r)), (3, .int (nI w)), (4, .int (nI m)), (5, .int (nI v))]) hx hb dX4_fill_41 hl (by decide) rfl (fun ls hl => ?_)
        have loop_43 : ∀ (n9 : Nat) (k : Nat) (sc1 : Nat → Int32), w * m - k < n9 → (k ≤ w * m) → (hV sc1 (valF S c r w v (r + k / w) (c + k % w))) → ∀ (H : Heap) (locs : List Loc) (ls : Array Slot), va_P D vwCl [(q 0, eMod (nI 0) q U), (q 1, eI cy 192 sc1), (q 2, eI cy 192 bf1), (q 3, eZ cy 2 is), (q 9, eI cy 24 d), (q 10, eI cy 2 mn)] H → va_D AA [(q 0, eMod (nI 0) q U), (q 1, eI cy 192 sc1), (q 2, eI cy 192 bf1), (q 3, eZ cy 2 is), (q 9, eI cy 24 d), (q 10, eI cy 2 mn)] → va_S AA ss.heap H locs → lv_has ls 7 [(0, .ref (q 0)), (1, .int (nI c)), (2, .int (nI r)), (3, .int (nI w)), (4, .int (nI m)), (5, .int (nI v)), (6, .int (nI k))] → W pp l ee ({ frames := 3, cells := 0, slots := 0, locals := 66 } : Room) ss mm ([.ref (q 0), .int (nI c), .int (nI r), .int (nI w), .int (nI m), .int (nI v)] : List Value).toArray bw mt cd H locs 0 0 QQ (F0 mm 43 ls []) := by
          intro n9
          induction n9 with
          | zero => intro k sc1 h9; exact absurd h9 (Nat.not_lt_zero _)
          | succ n9 ih_43 =>
            intro k sc1 hm_43 hk hv1 H locs ls hP hD hS hl
            refine lv_iload hx hb dX4_fill_43 (lv_at hl 6 rfl) ?_
            refine lv_iload_n hx hb dX4_fill_45 rfl (lv_at hl 3 rfl) ?_
            refine lv_iload hx hb dX4_fill_46 (lv_at hl 4 rfl) ?_
            refine lv_imul hx hb dX4_fill_48 ?_
            refine g_ti (y := nI (w * m)) (pk_mul _ _) ?_
            refine lv_icmp_ge (tgt := 81) hx hb dX4_fill_49 (by decide) (fun c_49 => ?_) (fun c_49 => ?_)
            · skip
              have c_49 : (w * m) ≤ k := (nI_leI (a := (w * m)) (b := k) (by omega) (by omega)).mp c_49
              refine lv_aload_n hx hb dX4_fill_81 rfl (lv_at hl 0 rfl) ?_
              refine gc_Wi (wn := fun u => [(q 0, eMod (nI 0) q U), (q 1, eI cy 192 sc1), (q 2, eI cy 192 bf1), (q 3, eZ cy 2 is), (q 9, eI cy 24 u.1), (q 10, eI cy 2 u.2)]) (wr := []) (va_runV (As := []) (rest := []) ⟨hx, hb, hml, hown, hts⟩ (c_X4_settle l D cy H.size q (nI 0) U sc1 bf1 is d mn S2 B J LL (hV_gD (hV_eq hv1 (by have e9 : k = w * m := (by omega); rw [e9]; exact valF_fin (by omega))) hd9) (hS_cong hs hB hw_37) hj hr9 ho) (cwV 0 hts gX4_fill_X4_settle rfl rfl rfl (by decide +kernel) ⟨Nat.le_of_ble_eq_true rfl, Nat.le_of_ble_eq_true rfl⟩) (gpVI (ci := 4) (q0 := 0) hG (hP.sub [0, 1, 2, 3, 4, 5] rfl) (hD.sub [0, 1, 2, 3, 4, 5] (by decide) rfl) rfl rfl) rfl rfl hl.1 rfl (lv_room (Nat.le_of_ble_eq_true rfl)) dX4_fill_82 ⟨Nat.zero_le _, Nat.zero_le _⟩) hP hD hS hA [0, 1, 2, 3, 4, 5] [] [0, 1, 2, 3, 4, 5] rfl rfl (by decide) (by decide) (fun _ => rfl) (by decide) (fun r_82 u9 H locs hw_82 hP hD hS => ?_)
              obtain ⟨d2_82, mn2_82⟩ := u9
              have hP : va_P D vwCl [(q 0, eMod (nI 0) q U), (q 1, eI cy 192 sc1), (q 2, eI cy 192 bf1), (q 3, eZ cy 2 is), (q 9, eI cy 24 d2_82), (q 10, eI cy 2 mn2_82)] H := hP
              have hD : va_D AA [(q 0, eMod (nI 0) q U), (q 1, eI cy 192 sc1), (q 2, eI cy 192 bf1), (q 3, eZ cy 2 is), (q 9, eI cy 24 d2_82), (q 10, eI cy 2 mn2_82)] := hD
              obtain ⟨hr_82, hw_82⟩ := hw_82
              refine g_ti (y := nI (sumD B S2 12)) hr_82 ?_
              have hw_82 : rowsR (fun c => stlF (J c) B S2 (LL c) 12) d2_82 mn2_82 := hw_82
              exact hret _ _ _ _ _ ⟨sc1, bf1, d2_82, mn2_82⟩ dX4_fill_85 (⟨rfl, (hV_gD (hV_eq hv1 (by have e9 : k = w * m := (by omega); rw [e9]; exact valF_fin (by omega))) hd9), hw_82⟩) (hP.sub [0, 1, 2, 3, 4, 5] rfl) (hD.sub [0, 1, 2, 3, 4, 5] (by decide) rfl) hS
            · skip
              have c_49 : ¬ (w * m) ≤ k := fun z => c_49 ((nI_leI (a := (w * m)) (b := k) (by omega) (by omega)).mpr z)
              have z2 := div_lt9 (k := k) (w := w) (m := m) (by omega)
              have z3 := Nat.mod_lt k (show 0 < w by omega)
              refine lv_aload_n hx hb dX4_fill_52 rfl (lv_at hl 0 rfl) ?_
              refine va_get (D := D) (ci := 4) (v := .ref (q 1)) (C := RX4) (T := TX4) (N := 17) hx hb hts iX4_fill_X4 hown hG.1 hP 0 rfl rfl 1 (by decide) (hts (.fieldLink RX4 7 "DirtyTilesModel" "screen" "[I") (by decide +kernel)) (fun _ h9 => h9) rfl dX4_fill_53 ?_
              refine lv_bipush (v := nI 16) hx hb dX4_fill_56 (by decide) ?_
              refine lv_iload_n hx hb dX4_fill_58 rfl (lv_at hl 2 rfl) ?_
              refine lv_iload hx hb dX4_fill_59 (lv_at hl 6 rfl) ?_
              refine lv_iload_n hx hb dX4_fill_61 rfl (lv_at hl 3 rfl) ?_
              refine lv_idiv hx hb dX4_fill_62 (nI_ne0 (by omega) (by omega)) ?_
              refine g_ti (y := nI (k / w)) (pk_div (by omega) (by omega) (by omega)) ?_
              refine lv_iadd hx hb dX4_fill_63 ?_
              refine g_ti (y := nI (r + (k / w))) (nI_add _ _) ?_
              refine lv_imul hx hb dX4_fill_64 ?_
              refine g_ti (y := nI (16 * (r + (k / w)))) (pk_mul _ _) ?_
              refine lv_iload_n hx hb dX4_fill_65 rfl (lv_at hl 1 rfl) ?_
              refine lv_iadd hx hb dX4_fill_66 ?_
              refine g_ti (y := nI ((16 * (r + (k / w))) + c)) (nI_add _ _) ?_
              refine lv_iload hx hb dX4_fill_67 (lv_at hl 6 rfl) ?_
              refine lv_iload_n hx hb dX4_fill_69 rfl (lv_at hl 3 rfl) ?_
              refine lv_irem hx hb dX4_fill_70 (nI_ne0 (by omega) (by omega)) ?_
              refine g_ti (y := nI (k % w)) (pk_rem (by omega) (by omega) (by omega)) ?_
              refine lv_iadd hx hb dX4_fill_71 ?_
              refine g_ti (y := nI (16 * (r + k / w) + (c + k % w))) (by rw [nI_add]; exact lt_ret (by omega)) ?_
              refine lv_iload hx hb dX4_fill_72 (lv_at hl 5 rfl) ?_
              refine g_iast hx hb hG hP hD hS 1 0 rfl rfl (k := 16 * (r + k / w) + (c + k % w)) (by omega) (by decide) dX4_fill_74 (fun H locs hP hD hS => ?_)
              have hP : va_P D vwCl [(q 0, eMod (nI 0) q U), (q 1, eI cy 192 (upd sc1 (16 * (r + k / w) + (c + k % w)) (nI v))), (q 2, eI cy 192 bf1), (q 3, eZ cy 2 is), (q 9, eI cy 24 d), (q 10, eI cy 2 mn)] H := hP
              have hD : va_D AA [(q 0, eMod (nI 0) q U), (q 1, eI cy 192 (upd sc1 (16 * (r + k / w) + (c + k % w)) (nI v))), (q 2, eI cy 192 bf1), (q 3, eZ cy 2 is), (q 9, eI cy 24 d), (q 10, eI cy 2 mn)] := hD
              refine lv_iinc (v := nI (k + 1)) (lv' := [(6, .int (nI (k + 1))), (0, .ref (q 0)), (1, .int (nI c)), (2, .int (nI r)), (3, .int (nI w)), (4, .int (nI m)), (5, .int (nI v))]) hx hb dX4_fill_75 hl (k := 6) rfl (nI_1 _) (by decide) rfl (fun ls hl => ?_)
              refine lv_goto (tgt := 43) hx hb dX4_fill_78 (by decide) ?_
              exact ih_43 (k + 1) (upd sc1 (16 * (r + k / w) + (c + k % w)) (nI v)) (by omega) (by omega) (fill_step (by omega) hw.2 hv1) _ _ _ (hP.sub [0, 1, 2, 3, 4, 5] rfl) (hD.sub [0, 1, 2, 3, 4, 5] (by decide) rfl) hS (lv_sub hl [1, 2, 3, 4, 5, 6, 0] rfl)
        exact loop_43 ((w * m - 0) + 1) 0 sc (Nat.lt_succ_self _) (by omega) (hV_eq hs (fun c9 r9 h1 h2 => by rw [Nat.zero_div, Nat.zero_mod]; exact valF_0 S c r w v c9 r9 h1 h2)) _ _ _ (hP.sub [0, 1, 2, 3, 4, 5] rfl) (hD.sub [0, 1, 2, 3, 4, 5] (by decide) rfl) hS (lv_sub hl [1, 2, 3, 4, 5, 6, 0] rfl)
      · skip
        have c_31 : ¬ (0 = 0) := gb_eq0.mp c_31
        exact absurd (by decide) c_31
theorem iX4_copy_X4 : ∀ w ∈ wsX40, w ∈ wsX4_copy := by decide +kernel
set_option maxHeartbeats 4000000 in
set_option maxRecDepth 100000 in
theorem c_X4_copy (l : Launch) (D : va_G) (cy : Nat → ClassId) (sz : Nat) (q : Nat → Nat) (T U : Int32) (sc bf is d mn : Nat → Int32) (S S2 B : Nat → Int64) (J : Nat → Prop) (LL : Nat → List Nat) (c r w m : Nat) (dx dy : Int32) (hs : hS S sc) (hB : ∀ k, k < 12 → B k = S k) (hj : ∀ c, c < 2 → is c = gb (J c)) (hr9 : rowsR LL d mn) (ho : ∀ c, c < 2 → okD (LL c)) (hc : c < 16) (hr : r < 12) (hw : 1 ≤ w ∧ w + c ≤ 16) (hh : 1 ≤ m ∧ m + r ≤ 12) (hdx : pIn dx (-15) 15) (hdy : pIn dy (-11) 11) (hd9 : gD S2 (finC S c r w m dx.toInt dy.toInt)) : Met l yX4_copy wsX4_copy ({ frames := 3, cells := 0, slots := 0, locals := 66 } : Room) (va_Pc [.ref (q 0), .int (nI c), .int (nI r), .int (nI w), .int (nI m), .int dx, .int dy] (gI D (gT cy) [(q 0, eMod T q U), (q 1, eI cy 192 sc), (q 2, eI cy 192 bf), (q 3, eZ cy 2 is), (q 9, eI cy 24 d), (q 10, eI cy 2 mn)] sz)) (va_Qi (fun (r9 : Int32) (u : (Nat → Int32) × (Nat → Int32) × (Nat → Int32) × (Nat → Int32)) => r9 = nI (sumD B S2 12) ∧ ((hS S2 u.1 ∧ rowsR (fun c => stlF (J c) B S2 (LL c) 12) u.2.2.1 u.2.2.2))) (gO D (fun u : (Nat → Int32) × (Nat → Int32) × (Nat → Int32) × (Nat → Int32) => [(q 0, eMod (nI 0) q U), (q 1, eI cy 192 u.1), (q 2, eI cy 192 u.2.1), (q 3, eZ cy 2 is), (q 9, eI cy 24 u.2.2.1), (q 10, eI cy 2 u.2.2.2)]) (va_A [(q 0, eMod T q U), (q 1, eI cy 192 sc), (q 2, eI cy 192 bf), (q 3, eZ cy 2 is), (q 9, eI cy 24 d), (q 10, eI cy 2 mn)] sz)) (va_A [(q 0, eMod T q U), (q 1, eI cy 192 sc), (q 2, eI cy 192 bf), (q 3, eZ cy 2 is), (q 9, eI cy 24 d), (q 10, eI cy 2 mn)] sz)) 0 0 (va_A [(q 0, eMod T q U), (q 1, eI cy 192 sc), (q 2, eI cy 192 bf), (q 3, eZ cy 2 is), (q 9, eI cy 24 d), (q 10, eI cy 2 mn)] sz) := by
  refine gW_i (cc := cX4_copy) (maxL := 10) (ty := .int) (by decide) rfl (Nat.le_of_ble_eq_true rfl) (fun v u hv => by rfl) ?_
  intro pp ee ss mm bw mt cd QQ AA ls hfx hP hG hD hA hret hl
  have hS : va_S AA ss.heap ss.heap [] := va_S.rf
  obtain ⟨H, eH⟩ : ∃ H, H = ss.heap := ⟨_, rfl⟩
  obtain ⟨locs, eL⟩ : ∃ L : List Loc, L = [] := ⟨_, rfl⟩
  have hP : va_P D vwCl [(q 0, eMod T q U), (q 1, eI cy 192 sc), (q 2, eI cy 192 bf), (q 3, eZ cy 2 is), (q 9, eI cy 24 d), (q 10, eI cy 2 mn)] H := by rw [eH]; exact hP
  have hS : va_S AA ss.heap H locs := by rw [eH, eL]; exact hS
  have goal : ∀ X Y, X = H → Y = locs → W pp l ee ({ frames := 3, cells := 0, slots := 0, locals := 66 } : Room) ss mm ([.ref (q 0), .int (nI c), .int (nI r), .int (nI w), .int (nI m), .int dx, .int dy] : List Value).toArray bw mt cd X Y 0 0 QQ (F0 mm 0 ls []) → W pp l ee ({ frames := 3, cells := 0, slots := 0, locals := 66 } : Room) ss mm ([.ref (q 0), .int (nI c), .int (nI r), .int (nI w), .int (nI m), .int dx, .int dy] : List Value).toArray bw mt cd ss.heap [] 0 0 QQ (F0 mm 0 ls []) := fun X Y hX hY h => by rw [hX, hY, eH, eL] at h; exact h
  refine goal H locs rfl rfl ?_
  clear goal eH eL
  obtain ⟨hx, hb, hml, hown, hts, hlocks⟩ := hfx
  have hown : ss.vm.findClass RX4 = some mm.cls := hown
  have hl : lv_has ls 10 [(0, .ref (q 0)), (1, .int (nI c)), (2, .int (nI r)), (3, .int (nI w)), (4, .int (nI m)), (5, .int dx), (6, .int dy)] := hl
  have z1 := mul_le9 (w := w) (m := m) (by omega) (by omega)
  have hdx9 : pIn dx (-4096) 4096 := ⟨by have := hdx.1; omega, by have := hdx.2; omega⟩
  have hdy9 : pIn dy (-4096) 4096 := ⟨by have := hdy.1; omega, by have := hdy.2; omega⟩
  refine lv_aload_n hx hb dX4_copy_0 rfl (lv_at hl 0 rfl) ?_
  refine lv_iload_n hx hb dX4_copy_1 rfl (lv_at hl 1 rfl) ?_
  refine lv_iload_n hx hb dX4_copy_2 rfl (lv_at hl 2 rfl) ?_
  refine lv_iload_n hx hb dX4_copy_3 rfl (lv_at hl 3 rfl) ?_
  refine lv_iload hx hb dX4_copy_4 (lv_at hl 4 rfl) ?_
  refine gc_Si (va_runS (As := [.int (nI c), .int (nI r), .int (nI w), .int (nI m)]) (rest := [.ref (q 0)]) ⟨hx, hb, hml, hown, hts⟩ (c_X4_isBox l D cy (nI c) (nI r) (nI w) (nI m)) (va_cwS 4 hts gX4_copy_X4_isBox rfl rfl rfl (by decide +kernel) ⟨Nat.le_of_ble_eq_true rfl, Nat.le_of_ble_eq_true rfl⟩) (gpSR hG (hP.sub [] rfl)) rfl rfl hl.1 rfl (lv_room (Nat.le_of_ble_eq_true rfl)) dX4_copy_6 ⟨Nat.zero_le _, Nat.zero_le _⟩) ?_
  refine lv_if_eq (tgt := 40) hx hb dX4_copy_9 (by decide) (fun c_9 => ?_) (fun c_9 => ?_)
  · skip
    have c_9 : ¬ (pBox (nI c) (nI r) (nI w) (nI m)) := gb_eq0.mp c_9
    exact absurd (ok_box hc hr hw hh) c_9
  · skip
    have c_9 : pBox (nI c) (nI r) (nI w) (nI m) := gb_ne0.mp c_9
    refine lv_iload hx hb dX4_copy_12 (lv_at hl 5 rfl) ?_
    refine lv_bipush (v := (-15)) hx hb dX4_copy_14 (by decide) ?_
    refine lv_bipush (v := nI 15) hx hb dX4_copy_16 (by decide) ?_
    refine gc_Si (va_runS (As := [.int dx, .int ((-15)), .int (nI 15)]) (rest := [.ref (q 0)]) ⟨hx, hb, hml, hown, hts⟩ (c_X4_in l D cy dx ((-15)) (nI 15)) (va_cwS 3 hts gX4_copy_X4_in rfl rfl rfl (by decide +kernel) ⟨Nat.le_of_ble_eq_true rfl, Nat.le_of_ble_eq_true rfl⟩) (gpSR hG (hP.sub [] rfl)) rfl rfl hl.1 rfl (lv_room (Nat.le_of_ble_eq_true rfl)) dX4_copy_18 ⟨Nat.zero_le _, Nat.zero_le _⟩) ?_
    refine g_ti (y := gb (pIn dx (-15) 15)) ((congrArg (fun z => gb (pIn dx z (nI 15 : Int32).toInt)) (by decide : ((-15) : Int32).toInt = (-15))).trans (congrArg (fun z => gb (pIn dx (-15) z)) (by decide : (nI 15 : Int32).toInt = 15))) ?_
    refine lv_if_eq (tgt := 40) hx hb dX4_copy_21 (by decide) (fun c_21 => ?_) (fun c_21 => ?_)
    · skip
      have c_21 : ¬ (pIn dx (-15) 15) := gb_eq0.mp c_21
      exact absurd (hdx) c_21
    · skip
      have c_21 : pIn dx (-15) 15 := gb_ne0.mp c_21
      refine lv_iload hx hb dX4_copy_24 (lv_at hl 6 rfl) ?_
      refine lv_bipush (v := (-11)) hx hb dX4_copy_26 (by decide) ?_
      refine lv_bipush (v := nI 11) hx hb dX4_copy_28 (by decide) ?_
      refine gc_Si (va_runS (As := [.int dy, .int ((-11)), .int (nI 11)]) (rest := [.ref (q 0)]) ⟨hx, hb, hml, hown, hts⟩ (c_X4_in l D cy dy ((-11)) (nI 11)) (va_cwS 3 hts gX4_copy_X4_in rfl rfl rfl (by decide +kernel) ⟨Nat.le_of_ble_eq_true rfl, Nat.le_of_ble_eq_true rfl⟩) (gpSR hG (hP.sub [] rfl)) rfl rfl hl.1 rfl (lv_room (Nat.le_of_ble_eq_true rfl)) dX4_copy_30 ⟨Nat.zero_le _, Nat.zero_le _⟩) ?_
      refine g_ti (y := gb (pIn dy (-11) 11)) ((congrArg (fun z => gb (pIn dy z (nI 11 : Int32).toInt)) (by decide : ((-11) : Int32).toInt = (-11))).trans (congrArg (fun z => gb (pIn dy (-11) z)) (by decide : (nI 11 : Int32).toInt = 11))) ?_
      refine lv_if_eq (tgt := 40) hx hb dX4_copy_33 (by decide) (fun c_33 => ?_) (fun c_33 => ?_)
      · skip
        have c_33 : ¬ (pIn dy (-11) 11) := gb_eq0.mp c_33
        exact absurd (hdy) c_33
      · skip
        have c_33 : pIn dy (-11) 11 := gb_ne0.mp c_33
        refine lv_iconst (v := nI 0) hx hb dX4_copy_36 (by decide) ?_
        refine lv_goto (tgt := 41) hx hb dX4_copy_37 (by decide) ?_
        refine gc_Wi (wn := fun u => [(q 0, eMod (nI 0) q U), (q 1, eI cy 192 sc), (q 2, eI cy 192 bf), (q 3, eZ cy 2 is), (q 9, eI cy 24 d), (q 10, eI cy 2 mn)]) (wr := [(q 1, eI cy 192 sc), (q 2, eI cy 192 bf), (q 3, eZ cy 2 is), (q 9, eI cy 24 d), (q 10, eI cy 2 mn)]) (va_runV (As := [.int (nI 0)]) (rest := []) ⟨hx, hb, hml, hown, hts⟩ (c_X4_goesWell l D cy H.size q T U 0 (by decide)) (cwV 1 hts gX4_copy_X4_goesWell rfl rfl rfl (by decide +kernel) ⟨Nat.le_of_ble_eq_true rfl, Nat.le_of_ble_eq_true rfl⟩) (gpVI (ci := 4) (q0 := 0) hG (hP.sub [0] rfl) (hD.sub [0] (by decide) rfl) rfl rfl) rfl rfl hl.1 rfl (lv_room (Nat.le_of_ble_eq_true rfl)) dX4_copy_41 ⟨Nat.zero_le _, Nat.zero_le _⟩) hP hD hS hA [0] [1, 2, 3, 4, 5] [5, 0, 1, 2, 3, 4] rfl rfl (by decide) (by decide) (fun _ => rfl) (by decide) (fun r_41 _u H locs hw_41 hP hD hS => ?_)
        have hP : va_P D vwCl [(q 0, eMod (nI 0) q U), (q 1, eI cy 192 sc), (q 2, eI cy 192 bf), (q 3, eZ cy 2 is), (q 9, eI cy 24 d), (q 10, eI cy 2 mn)] H := hP
        have hD : va_D AA [(q 0, eMod (nI 0) q U), (q 1, eI cy 192 sc), (q 2, eI cy 192 bf), (q 3, eZ cy 2 is), (q 9, eI cy 24 d), (q 10, eI cy 2 mn)] := hD
        obtain ⟨hr_41, hw_41⟩ := hw_41
        refine g_ti (y := gb (0 = 0)) hr_41 ?_
        have hw_41 : True := hw_41
        refine lv_if_ne (tgt := 49) hx hb dX4_copy_44 (by decide) (fun c_44 => ?_) (fun c_44 => ?_)
        · skip
          have c_44 : 0 = 0 := gb_ne0.mp c_44
          refine lv_aload_n hx hb dX4_copy_49 rfl (lv_at hl 0 rfl) ?_
          refine gc_Wv (wn := fun u => [(q 0, eMod (nI 0) q U), (q 1, eI cy 192 sc), (q 2, eI cy 192 u), (q 3, eZ cy 2 is), (q 9, eI cy 24 d), (q 10, eI cy 2 mn)]) (wr := [(q 3, eZ cy 2 is), (q 9, eI cy 24 d), (q 10, eI cy 2 mn)]) (va_runV (As := []) (rest := []) ⟨hx, hb, hml, hown, hts⟩ (c_X4_keep l D cy H.size q (nI 0) U sc bf) (cwV 0 hts gX4_copy_X4_keep rfl rfl rfl (by decide +kernel) ⟨Nat.le_of_ble_eq_true rfl, Nat.le_of_ble_eq_true rfl⟩) (gpVI (ci := 4) (q0 := 0) hG (hP.sub [0, 1, 2] rfl) (hD.sub [0, 1, 2] (by decide) rfl) rfl rfl) rfl rfl hl.1 rfl (lv_room (Nat.le_of_ble_eq_true rfl)) dX4_copy_50 ⟨Nat.zero_le _, Nat.zero_le _⟩) hP hD hS hA [0, 1, 2] [3, 4, 5] [3, 4, 5, 0, 1, 2] rfl rfl (by decide) (by decide) (fun _ => rfl) (by decide) (fun bf1 H locs hw_50 hP hD hS => ?_)
          have hP : va_P D vwCl [(q 0, eMod (nI 0) q U), (q 1, eI cy 192 sc), (q 2, eI cy 192 bf1), (q 3, eZ cy 2 is), (q 9, eI cy 24 d), (q 10, eI cy 2 mn)] H := hP
          have hD : va_D AA [(q 0, eMod (nI 0) q U), (q 1, eI cy 192 sc), (q 2, eI cy 192 bf1), (q 3, eZ cy 2 is), (q 9, eI cy 24 d), (q 10, eI cy 2 mn)] := hD
          have hw_50 : ∀ k, k < 192 → bf1 k = sc k := hw_50
          refine lv_iconst (v := nI 0) hx hb dX4_copy_53 (by decide) ?_
          refine lv_istore (lv' := [(7, .int (nI 0)), (0, .ref (q 0)), (1, .int (nI c)), (2, .int (nI r)), (3, .int (nI w)), (4, .int (nI m)), (5, .int dx), (6, .int dy)]) hx hb dX4_copy_54 hl (by decide) rfl (fun ls hl => ?_)
          have loop_56 : ∀ (n9 : Nat) (k : Nat) (sc1 : Nat → Int32), w * m - k < n9 → (k ≤ w * m) → (hV sc1 (valC S c r w (r + k / w) (c + k % w) dx.toInt dy.toInt)) → ∀ (H : Heap) (locs : List Loc) (ls : Array Slot), va_P D vwCl [(q 0, eMod (nI 0) q U), (q 1, eI cy 192 sc1), (q 2, eI cy 192 bf1), (q 3, eZ cy 2 is), (q 9, eI cy 24 d), (q 10, eI cy 2 mn)] H → va_D AA [(q 0, eMod (nI 0) q U), (q 1, eI cy 192 sc1), (q 2, eI cy 192 bf1), (q 3, eZ cy 2 is), (q 9, eI cy 24 d), (q 10, eI cy 2 mn)] → va_S AA ss.heap H locs → lv_has ls 10 [(0, .ref (q 0)), (1, .int (nI c)), (2, .int (nI r)), (3, .int (nI w)), (4, .int (nI m)), (5, .int dx), (6, .int dy), (7, .int (nI k))] → W pp l ee ({ frames := 3, cells := 0, slots := 0, locals := 66 } : Room) ss mm ([.ref (q 0), .int (nI c), .int (nI r), .int (nI w), .int (nI m), .int dx, .int dy] : List Value).toArray bw mt cd H locs 0 0 QQ (F0 mm 56 ls []) := by
            intro n9
            induction n9 with
            | zero => intro k sc1 h9; exact absurd h9 (Nat.not_lt_zero _)
            | succ n9 ih_56 =>
              intro k sc1 hm_56 hk hv1 H locs ls hP hD hS hl
              refine lv_iload hx hb dX4_copy_56 (lv_at hl 7 rfl) ?_
              refine lv_iload_n hx hb dX4_copy_58 rfl (lv_at hl 3 rfl) ?_
              refine lv_iload hx hb dX4_copy_59 (lv_at hl 4 rfl) ?_
              refine lv_imul hx hb dX4_copy_61 ?_
              refine g_ti (y := nI (w * m)) (pk_mul _ _) ?_
              refine lv_icmp_ge (tgt := 135) hx hb dX4_copy_62 (by decide) (fun c_62 => ?_) (fun c_62 => ?_)
              · skip
                have c_62 : (w * m) ≤ k := (nI_leI (a := (w * m)) (b := k) (by omega) (by omega)).mp c_62
                refine lv_aload_n hx hb dX4_copy_135 rfl (lv_at hl 0 rfl) ?_
                refine gc_Wi (wn := fun u => [(q 0, eMod (nI 0) q U), (q 1, eI cy 192 sc1), (q 2, eI cy 192 bf1), (q 3, eZ cy 2 is), (q 9, eI cy 24 u.1), (q 10, eI cy 2 u.2)]) (wr := []) (va_runV (As := []) (rest := []) ⟨hx, hb, hml, hown, hts⟩ (c_X4_settle l D cy H.size q (nI 0) U sc1 bf1 is d mn S2 B J LL (hV_gD (hV_eq hv1 (by have e9 : k = w * m := (by omega); rw [e9]; exact valC_fin (by omega))) hd9) (hS_cong hs hB hw_50) hj hr9 ho) (cwV 0 hts gX4_copy_X4_settle rfl rfl rfl (by decide +kernel) ⟨Nat.le_of_ble_eq_true rfl, Nat.le_of_ble_eq_true rfl⟩) (gpVI (ci := 4) (q0 := 0) hG (hP.sub [0, 1, 2, 3, 4, 5] rfl) (hD.sub [0, 1, 2, 3, 4, 5] (by decide) rfl) rfl rfl) rfl rfl hl.1 rfl (lv_room (Nat.le_of_ble_eq_true rfl)) dX4_copy_136 ⟨Nat.zero_le _, Nat.zero_le _⟩) hP hD hS hA [0, 1, 2, 3, 4, 5] [] [0, 1, 2, 3, 4, 5] rfl rfl (by decide) (by decide) (fun _ => rfl) (by decide) (fun r_136 u9 H locs hw_136 hP hD hS => ?_)
                obtain ⟨d2_136, mn2_136⟩ := u9
                have hP : va_P D vwCl [(q 0, eMod (nI 0) q U), (q 1, eI cy 192 sc1), (q 2, eI cy 192 bf1), (q 3, eZ cy 2 is), (q 9, eI cy 24 d2_136), (q 10, eI cy 2 mn2_136)] H := hP
                have hD : va_D AA [(q 0, eMod (nI 0) q U), (q 1, eI cy 192 sc1), (q 2, eI cy 192 bf1), (q 3, eZ cy 2 is), (q 9, eI cy 24 d2_136), (q 10, eI cy 2 mn2_136)] := hD
                obtain ⟨hr_136, hw_136⟩ := hw_136
                refine g_ti (y := nI (sumD B S2 12)) hr_136 ?_
                have hw_136 : rowsR (fun c => stlF (J c) B S2 (LL c) 12) d2_136 mn2_136 := hw_136
                exact hret _ _ _ _ _ ⟨sc1, bf1, d2_136, mn2_136⟩ dX4_copy_139 (⟨rfl, (hV_gD (hV_eq hv1 (by have e9 : k = w * m := (by omega); rw [e9]; exact valC_fin (by omega))) hd9), hw_136⟩) (hP.sub [0, 1, 2, 3, 4, 5] rfl) (hD.sub [0, 1, 2, 3, 4, 5] (by decide) rfl) hS
              · skip
                have c_62 : ¬ (w * m) ≤ k := fun z => c_62 ((nI_leI (a := (w * m)) (b := k) (by omega) (by omega)).mpr z)
                have z2 := div_lt9 (k := k) (w := w) (m := m) (by omega)
                have z3 := Nat.mod_lt k (show 0 < w by omega)
                refine lv_iload_n hx hb dX4_copy_65 rfl (lv_at hl 1 rfl) ?_
                refine lv_iload hx hb dX4_copy_66 (lv_at hl 7 rfl) ?_
                refine lv_iload_n hx hb dX4_copy_68 rfl (lv_at hl 3 rfl) ?_
                refine lv_irem hx hb dX4_copy_69 (nI_ne0 (by omega) (by omega)) ?_
                refine g_ti (y := nI (k % w)) (pk_rem (by omega) (by omega) (by omega)) ?_
                refine lv_iadd hx hb dX4_copy_70 ?_
                refine g_ti (y := nI (c + (k % w))) (nI_add _ _) ?_
                refine lv_istore (lv' := [(8, .int (nI (c + (k % w)))), (0, .ref (q 0)), (1, .int (nI c)), (2, .int (nI r)), (3, .int (nI w)), (4, .int (nI m)), (5, .int dx), (6, .int dy), (7, .int (nI k))]) hx hb dX4_copy_71 hl (by decide) rfl (fun ls hl => ?_)
                refine lv_iload_n hx hb dX4_copy_73 rfl (lv_at hl 3 rfl) ?_
                refine lv_iload hx hb dX4_copy_74 (lv_at hl 8 rfl) ?_
                refine lv_iload_n hx hb dX4_copy_76 rfl (lv_at hl 4 rfl) ?_
                refine lv_idiv hx hb dX4_copy_77 (nI_ne0 (by omega) (by omega)) ?_
                refine g_ti (y := nI (k / w)) (pk_div (by omega) (by omega) (by omega)) ?_
                refine lv_iadd hx hb dX4_copy_78 ?_
                refine g_ti (y := nI (r + (k / w))) (nI_add _ _) ?_
                refine lv_istore (lv' := [(9, .int (nI (r + (k / w)))), (8, .int (nI (c + (k % w)))), (0, .ref (q 0)), (1, .int (nI c)), (2, .int (nI r)), (3, .int (nI w)), (4, .int (nI m)), (5, .int dx), (6, .int dy), (7, .int (nI k))]) hx hb dX4_copy_79 hl (by decide) rfl (fun ls hl => ?_)
                refine lv_iload hx hb dX4_copy_81 (lv_at hl 1 rfl) ?_
                refine lv_iload hx hb dX4_copy_83 (lv_at hl 7 rfl) ?_
                refine lv_iadd hx hb dX4_copy_85 ?_
                refine lv_iload hx hb dX4_copy_86 (lv_at hl 0 rfl) ?_
                refine lv_iload hx hb dX4_copy_88 (lv_at hl 8 rfl) ?_
                refine lv_iadd hx hb dX4_copy_90 ?_
                refine gc_Si (va_runS (As := [.int ((nI (c + (k % w))) + dx), .int ((nI (r + (k / w))) + dy)]) (rest := []) ⟨hx, hb, hml, hown, hts⟩ (c_X4_isCell l D cy ((nI (c + (k % w))) + dx) ((nI (r + (k / w))) + dy)) (va_cwS 2 hts gX4_copy_X4_isCell rfl rfl rfl (by decide +kernel) ⟨Nat.le_of_ble_eq_true rfl, Nat.le_of_ble_eq_true rfl⟩) (gpSR hG (hP.sub [] rfl)) rfl rfl hl.1 rfl (lv_room (Nat.le_of_ble_eq_true rfl)) dX4_copy_91 ⟨Nat.zero_le _, Nat.zero_le _⟩) ?_
                refine lv_if_eq (tgt := 129) hx hb dX4_copy_94 (by decide) (fun c_94 => ?_) (fun c_94 => ?_)
                · skip
                  have c_94 : ¬ (pCell ((nI (c + (k % w))) + dx) ((nI (r + (k / w))) + dy)) := gb_eq0.mp c_94
                  refine lv_iinc (v := nI (k + 1)) (lv' := [(7, .int (nI (k + 1))), (9, .int (nI (r + (k / w)))), (8, .int (nI (c + (k % w)))), (0, .ref (q 0)), (1, .int (nI c)), (2, .int (nI r)), (3, .int (nI w)), (4, .int (nI m)), (5, .int dx), (6, .int dy)]) hx hb dX4_copy_129 hl (k := 9) rfl (nI_1 _) (by decide) rfl (fun ls hl => ?_)
                  refine lv_goto (tgt := 56) hx hb dX4_copy_132 (by decide) ?_
                  exact ih_56 (k + 1) sc1 (by omega) (by omega) (by first | exact copy_step (by omega) hX2 hY2 (by omega) hv1 | exact copy_skip (by omega) (fun z => c_94 (by have q1 := addI (x := c + k % w) (by omega) hdx9; have q2 := addI (x := r + k / w) (by omega) hdy9; exact ⟨⟨by omega, by omega⟩, ⟨by omega, by omega⟩⟩)) hv1) _ _ _ (hP.sub [0, 1, 2, 3, 4, 5] rfl) (hD.sub [0, 1, 2, 3, 4, 5] (by decide) rfl) hS (lv_sub hl [3, 4, 5, 6, 7, 8, 9, 0] rfl)
                · skip
                  have c_94 : pCell ((nI (c + (k % w))) + dx) ((nI (r + (k / w))) + dy) := gb_ne0.mp c_94
                  obtain ⟨X, hX1, eX, hX2⟩ := addN (x := c + k % w) (by omega) hdx9 (n := 15) c_94.1 (by decide)
                  obtain ⟨Y, hY1, eY, hY2⟩ := addN (x := r + k / w) (by omega) hdy9 (n := 11) c_94.2 (by decide)
                  refine lv_aload_n hx hb dX4_copy_97 rfl (lv_at hl 2 rfl) ?_
                  refine va_get (D := D) (ci := 4) (v := .ref (q 1)) (C := RX4) (T := TX4) (N := 17) hx hb hts iX4_copy_X4 hown hG.1 hP 0 rfl rfl 1 (by decide) (hts (.fieldLink RX4 7 "DirtyTilesModel" "screen" "[I") (by decide +kernel)) (fun _ h9 => h9) rfl dX4_copy_98 ?_
                  refine lv_bipush (v := nI 16) hx hb dX4_copy_101 (by decide) ?_
                  refine lv_iload hx hb dX4_copy_103 (lv_at hl 0 rfl) ?_
                  refine lv_iload hx hb dX4_copy_105 (lv_at hl 8 rfl) ?_
                  refine lv_iadd hx hb dX4_copy_107 ?_
                  refine g_ti (y := nI Y) (eY) ?_
                  refine lv_imul hx hb dX4_copy_108 ?_
                  refine g_ti (y := nI (16 * Y)) (pk_mul _ _) ?_
                  refine lv_iload hx hb dX4_copy_109 (lv_at hl 1 rfl) ?_
                  refine lv_iadd hx hb dX4_copy_111 ?_
                  refine g_ti (y := nI ((16 * Y) + (c + (k % w)))) (nI_add _ _) ?_
                  refine lv_iload hx hb dX4_copy_112 (lv_at hl 7 rfl) ?_
                  refine lv_iadd hx hb dX4_copy_114 ?_
                  refine g_ti (y := nI (16 * Y + X)) (by rw [← nI_add (16 * Y) (c + k % w), Int32.add_assoc, eX, nI_add]) ?_
                  refine lv_aload_n hx hb dX4_copy_115 rfl (lv_at hl 2 rfl) ?_
                  refine va_get (D := D) (ci := 4) (v := .ref (q 2)) (C := RX4) (T := TX4) (N := 17) hx hb hts iX4_copy_X4 hown hG.1 hP 0 rfl rfl 2 (by decide) (hts (.fieldLink RX4 13 "DirtyTilesModel" "before" "[I") (by decide +kernel)) (fun _ h9 => h9) rfl dX4_copy_116 ?_
                  refine lv_bipush (v := nI 16) hx hb dX4_copy_119 (by decide) ?_
                  refine lv_iload hx hb dX4_copy_121 (lv_at hl 0 rfl) ?_
                  refine lv_imul hx hb dX4_copy_123 ?_
                  refine g_ti (y := nI (16 * (r + (k / w)))) (pk_mul _ _) ?_
                  refine lv_iload hx hb dX4_copy_124 (lv_at hl 1 rfl) ?_
                  refine lv_iadd hx hb dX4_copy_126 ?_
                  refine g_ti (y := nI ((16 * (r + (k / w))) + (c + (k % w)))) (nI_add _ _) ?_
                  refine g_iald hx hb hG hP 2 0 rfl rfl (k := (16 * (r + (k / w))) + (c + (k % w))) (by omega) (by decide) dX4_copy_127 ?_
                  refine g_ti (y := nI (at2 S (c + k % w) (r + k / w))) ((hw_50 _ (by omega)).trans (hs _ _ (by omega) (by omega))) ?_
                  refine g_iast hx hb hG hP hD hS 1 0 rfl rfl (k := 16 * Y + X) (by omega) (by decide) dX4_copy_128 (fun H locs hP hD hS => ?_)
                  have hP : va_P D vwCl [(q 0, eMod (nI 0) q U), (q 1, eI cy 192 (upd sc1 (16 * Y + X) (nI (at2 S (c + k % w) (r + k / w))))), (q 2, eI cy 192 bf1), (q 3, eZ cy 2 is), (q 9, eI cy 24 d), (q 10, eI cy 2 mn)] H := hP
                  have hD : va_D AA [(q 0, eMod (nI 0) q U), (q 1, eI cy 192 (upd sc1 (16 * Y + X) (nI (at2 S (c + k % w) (r + k / w))))), (q 2, eI cy 192 bf1), (q 3, eZ cy 2 is), (q 9, eI cy 24 d), (q 10, eI cy 2 mn)] := hD
                  refine lv_iinc (v := nI (k + 1)) (lv' := [(7, .int (nI (k + 1))), (9, .int (nI (r + (k / w)))), (8, .int (nI (c + (k % w)))), (0, .ref (q 0)), (1, .int (nI c)), (2, .int (nI r)), (3, .int (nI w)), (4, .int (nI m)), (5, .int dx), (6, .int dy)]) hx hb dX4_copy_129 hl (k := 9) rfl (nI_1 _) (by decide) rfl (fun ls hl => ?_)
                  refine lv_goto (tgt := 56) hx hb dX4_copy_132 (by decide) ?_
                  exact ih_56 (k + 1) (upd sc1 (16 * Y + X) (nI (at2 S (c + k % w) (r + k / w)))) (by omega) (by omega) (by first | exact copy_step (by omega) hX2 hY2 (by omega) hv1 | exact copy_skip (by omega) (fun z => c_94 (by have q1 := addI (x := c + k % w) (by omega) hdx9; have q2 := addI (x := r + k / w) (by omega) hdy9; exact ⟨⟨by omega, by omega⟩, ⟨by omega, by omega⟩⟩)) hv1) _ _ _ (hP.sub [0, 1, 2, 3, 4, 5] rfl) (hD.sub [0, 1, 2, 3, 4, 5] (by decide) rfl) hS (lv_sub hl [3, 4, 5, 6, 7, 8, 9, 0] rfl)
          exact loop_56 ((w * m - 0) + 1) 0 sc (Nat.lt_succ_self _) (by omega) (hV_eq hs (fun c9 r9 h1 h2 => by rw [Nat.zero_div, Nat.zero_mod]; exact valC_0 S c r w _ _ c9 r9 h1 h2)) _ _ _ (hP.sub [0, 1, 2, 3, 4, 5] rfl) (hD.sub [0, 1, 2, 3, 4, 5] (by decide) rfl) hS (lv_sub hl [1, 2, 3, 4, 5, 6, 7, 0] rfl)
        · skip
          have c_44 : ¬ (0 = 0) := gb_eq0.mp c_44
          exact absurd (by decide) c_44
