theorem wO_X10 : Cond.methodLink "SnowSentries$Ways" 3 Lib.objectInit ∈ TB := it_2 (List.mem_of_getElem? (i := 4) rfl) rfl
theorem wk_X10_9 : Cond.classLink "SnowSentries$Ways" 9 "[[I" ∈ TB := it_2 (List.mem_of_getElem? (i := 5) rfl) rfl
theorem d_X10_init_0 : DD prog_12_method_1_code 0 (.aload_n 0) 1 1 := ⟨by decide +kernel, rfl⟩
theorem d_X10_init_1 : DD prog_12_method_1_code 1 (.invokespecial 3) 3 4 := ⟨by decide +kernel, rfl⟩
theorem d_X10_init_4 : DD prog_12_method_1_code 4 (.aload_n 0) 1 5 := ⟨by decide +kernel, rfl⟩
theorem d_X10_init_5 : DD prog_12_method_1_code 5 (.bipush 12) 2 7 := ⟨by decide +kernel, rfl⟩
theorem d_X10_init_7 : DD prog_12_method_1_code 7 (.bipush 10) 2 9 := ⟨by decide +kernel, rfl⟩
theorem d_X10_init_9 : DD prog_12_method_1_code 9 (.multianewarray 9 2) 4 13 := ⟨by decide +kernel, rfl⟩
theorem d_X10_init_13 : DD prog_12_method_1_code 13 (.putfield 11) 3 16 := ⟨by decide +kernel, rfl⟩
theorem d_X10_init_16 : DD prog_12_method_1_code 16 (.aload_n 0) 1 17 := ⟨by decide +kernel, rfl⟩
theorem d_X10_init_17 : DD prog_12_method_1_code 17 (.bipush 13) 2 19 := ⟨by decide +kernel, rfl⟩
theorem d_X10_init_19 : DD prog_12_method_1_code 19 (.bipush 10) 2 21 := ⟨by decide +kernel, rfl⟩
theorem d_X10_init_21 : DD prog_12_method_1_code 21 (.multianewarray 9 2) 4 25 := ⟨by decide +kernel, rfl⟩
theorem d_X10_init_25 : DD prog_12_method_1_code 25 (.putfield 16) 3 28 := ⟨by decide +kernel, rfl⟩
theorem d_X10_init_28 : DD prog_12_method_1_code 28 (.return_) 1 29 := ⟨by decide +kernel, rfl⟩
def mE (G : GG) (n N K : Nat) : Nat → va_E := fun i => if i = n then .inl (gC G 7, N, .inr (.inr (.inr (.inr (fun j => if j < N then some (gB G + (n + 1 + j)) else none))))) else .inl (gC G 0, K, .inl (fun _ => 0))
theorem mE_0 (G : GG) (n N K : Nat) : mE G n N K n = .inl (gC G 7, N, .inr (.inr (.inr (.inr (fun j => if j < N then some (gB G + (n + 1 + j)) else none))))) := if_pos rfl
theorem mE_n {G : GG} {n N K i : Nat} (h : i ≠ n) : mE G n N K i = .inl (gC G 0, K, .inl (fun _ => 0)) := if_neg h
section ZF
variable {p : Program} {l : Launch} {e : Env} {R : Room} {s : State} {m : MethodId} {args : Array Value} {below : List Frame} {meth : Method} {c : Code} {nL cells slots : Nat} {Q : State → Prop} {G : GG} {n0 n : Nat} {E : Nat → va_E} {pc pc' : Nat} {L : List (Nat × Value)} {S : List Value} {cc : ByteArray} {own : String}
theorem k_multi {idx N KK9 : Nat} {v w : Int32} (C : GX p s m args c cc nL own) (K : KC G s) (hz0 : gB G + n0 ≤ s.heap.size) (hn : n0 ≤ n) (hzc : s.heap.size + cells = gB G + n) (w1 : Cond.classLink own idx "[[I" ∈ TB) (hv : ¬ v < 0) (hN : v.toNatClampNeg = N) (hw : ¬ w < 0) (hK : w.toNatClampNeg = KK9) (hb1 : N * 4 ≤ 536870912) (hb2 : KK9 * 4 ≤ 536870912) (hc : cells + (1 + N) ≤ R.cells) (hs : slots + (N + N * KK9) ≤ R.slots) (hd : DD cc pc (.multianewarray idx 2) 4 pc')
    (h : Zg p l e R s m args below meth c nL Q (cells + 1 + N) (slots + N + N * KK9) (FC s G n0 (n + 1 + N) (jn E n (mE G n N KK9))) pc' L (.ref (gB G + n) :: S)) : Zg p l e R s m args below meth c nL Q cells slots (FC s G n0 n E) pc L (.int w :: .int v :: S) := by
  obtain ⟨d, rfl⟩ := hd
  intro H locs ls hF hl
  refine W.sz fun hsz => ?_
  have hz : H.size = gB G + n := Nat.le_antisymm (by omega) (hF.lo hz0 hn)
  obtain ⟨kA, hkA, hA⟩ := K.2.2.2.2.2
  obtain ⟨-, kI, hkI, cX, hI⟩ := (K.1.2 0 (gC G 0, .int) rfl).1 0 (fun _ => .null)
  have hfA : s.vm.findClass "[[I" = some (gC G 7) := by
    have := (K.1.2 7 (gC G 7, .array .int) rfl).2
    have e : "[" ++ (FieldType.array .int).toString = "[[I" := by decide +kernel
    rw [← e]
    exact this
  refine W.mana C.1 C.2.1 C.2.2.2.1 (C.2.2.2.2 _ w1) hfA hkA hA hkI hI (g := F0 m pc ls (.int w :: .int v :: S)) rfl d rfl hv hw hN hK hb1 hb2 hc hs fun H1 z1 e1 e2 o1 => ?_
  obtain ⟨hP, hS⟩ := hF
  have hP3 : va_P (gD G) vwCl (cw (gB G) n0 (n + 1 + N) (jn E n (mE G n N KK9))) H1 := by
    rw [← cw_app (n1 := n) hn (by omega)]
    refine va_P.app ?_ ?_
    · rw [cw_c (E := jn E n (mE G n N KK9)) (E' := E) (fun i _ hi => jn_lt hi)]
      exact va_P.kept hP (fun k y hy => o1 _ (hP k y hy).lt)
    · rw [cw_c (E := jn E n (mE G n N KK9)) (E' := mE G n N KK9) (fun i hi _ => jn_ge hi)]
      intro j x hx
      obtain ⟨q1, rfl⟩ := cw_key hx
      by_cases hj : j = 0
      · subst hj
        rw [Nat.add_zero, mE_0]
        show H1[gB G + n]? = some (vp_cell (gC G 7) _)
        rw [vp_cell_q, ← hz, e1]
        congr 2
        funext j
        unfold mrow
        by_cases q : j < N
        · rw [if_pos q, if_pos q]
          show Value.ref (H.size + 1 + j) = Value.ref (gB G + (n + 1 + j))
          rw [show H.size + 1 + j = gB G + (n + 1 + j) by omega]
        · rw [if_neg q, if_neg q]
          rfl
      · rw [mE_n (by omega)]
        show H1[gB G + (n + j)]? = some (vp_cell (gC G 0) _)
        have := e2 (j - 1) (by omega)
        rw [hz, show gB G + n + 1 + (j - 1) = gB G + (n + j) by omega] at this
        exact this
  have goal := h H1 (locs ++ mloc H.size N) ls ⟨hP3, ⟨Nat.le_trans hS.1 (by omega), fun q q1 q2 => (o1 q (Nat.lt_of_lt_of_le q1 hS.1)).trans (hS.2.1 q q1 q2), fun q hq => by
    rcases List.mem_append.mp hq with z | z
    · exact hS.2.2 q z
    · show gB G + n0 ≤ q.base
      rw [mloc_b z]
      omega⟩⟩ hl
  rw [← hz] at goal
  exact goal
end ZF
theorem n_X10_init (l : Launch) (G : GG) {a : Nat} (h0 : kU 0 a = 10) (h3 : kU 0 (a + 1) = 31) (h4 : kU 0 (a + 14) = 32) : CN l G y_X10_init prog_12_method_1_code 1 1 12 27 275 a (.inr (10, [.int 0, .int 0, .null, .null])) (EU 0 G Mz) := by
  refine CN.of (by decide) rfl (by decide) ?_
  intro p e s m args below meth c C K hs0 hlk hr hnm
  refine g_aload_n (x := gB G + a) 0 C d_X10_init_0 rfl rfl ?_
  refine k_obj C wO_X10 wOi wOc (Nat.le_of_ble_eq_true rfl) (Nat.le_of_ble_eq_true rfl) d_X10_init_1 ?_
  refine g_aload_n (x := gB G + a) 0 C d_X10_init_4 rfl rfl ?_
  refine g_bipush (v := 12) C d_X10_init_5 rfl ?_
  refine g_bipush (v := 10) C d_X10_init_7 rfl ?_
  refine k_multi (N := 12) (KK9 := 10) C K (by omega) (by omega) (by omega) wk_X10_9 (by decide) rfl (by decide) rfl (by decide) (by decide) (Nat.le_of_ble_eq_true rfl) (Nat.le_of_ble_eq_true rfl) d_X10_init_9 ?_
  refine k_put (a := a) (k := 2) (ty := .array (.array .int)) C K.1 (by omega) (by omega) (jn_lt (by omega)) rfl inX10 tyX10 tyX10_ok nmX10 (by decide) wf_X10_11 (Or.inr ⟨rfl, hnm, rfl⟩) (by decide +kernel) rfl rfl (Nat.le_of_ble_eq_true rfl) d_X10_init_13 ?_
  refine g_aload_n (x := gB G + a) 0 C d_X10_init_16 rfl rfl ?_
  refine g_bipush (v := 13) C d_X10_init_17 rfl ?_
  refine g_bipush (v := 10) C d_X10_init_19 rfl ?_
  refine k_multi (N := 13) (KK9 := 10) C K (by omega) (by omega) (by omega) wk_X10_9 (by decide) rfl (by decide) rfl (by decide) (by decide) (Nat.le_of_ble_eq_true rfl) (Nat.le_of_ble_eq_true rfl) d_X10_init_21 ?_
  refine k_put (a := a) (k := 3) (ty := .array (.array .int)) C K.1 (by omega) (by omega) ((jn_lt (by omega)).trans (up1_s _ _ _)) rfl inX10 tyX10 tyX10_ok nmX10 (by decide) wf_X10_16 (Or.inr ⟨rfl, hnm, rfl⟩) (by decide +kernel) rfl rfl (Nat.le_of_ble_eq_true rfl) d_X10_init_25 ?_
  refine k_vret C hlk hr rfl (fun i h1 h2 => ?_) rfl rfl d_X10_init_28
  by_cases i0 : i = a
  · rw [i0]
    exact (up1_s _ _ _).trans (E_10 h0 G (Mz.1 _) (Mz.2 _)).symm
  refine (up1_n i0).trans ?_
  by_cases i1 : a + 14 ≤ i
  · refine (jn_ge (by omega)).trans ?_
    by_cases i2 : i = a + 14
    · rw [i2]
      exact (mE_0 G (a + 14) 13 10).trans (E_32 h4 G (Mz.1 _) (Mz.2 _)).symm
    · refine (mE_n i2).trans ?_
      have hk := k_32 h4 (i := i - (a + 15)) (by omega)
      rw [show a + 14 + 1 + (i - (a + 15)) = i by omega] at hk
      exact (E_21 hk G (Mz.1 _) (Mz.2 _)).symm
  · refine ((jn_lt (by omega)).trans (up1_n i0)).trans ((jn_ge (by omega)).trans ?_)
    by_cases i2 : i = a + 1
    · rw [i2]
      exact (mE_0 G (a + 1) 12 10).trans (E_31 h3 G (Mz.1 _) (Mz.2 _)).symm
    · refine (mE_n i2).trans ?_
      have hk := k_31 h3 (i := i - (a + 2)) (by omega)
      rw [show a + 1 + 1 + (i - (a + 2)) = i by omega] at hk
      exact (E_21 hk G (Mz.1 _) (Mz.2 _)).symm
