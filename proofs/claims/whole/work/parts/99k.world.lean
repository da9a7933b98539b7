theorem wn_X11 : Cond.instantiable "SnowSentries" 12 ∈ TB := it_1 (List.mem_of_getElem? (i := 22) rfl) rfl
theorem wn_X12 : Cond.instantiable "SnowSentriesModel" 36 ∈ TB := it_5 (List.mem_of_getElem? (i := 105) rfl) rfl
theorem il_7 {w : Cond} (h : w ∈ tables_1_7) : w ∈ lw_tbl := List.mem_append_right _ (List.mem_append_right _ (List.mem_append_right _ (List.mem_append_right _ (List.mem_append_right _ (List.mem_append_right _ (List.mem_append_right _ h))))))
theorem il_1 {w : Cond} (h : w ∈ tables_1_1) : w ∈ lw_tbl := List.mem_append_right _ (List.mem_append_left _ h)
theorem il_2 {w : Cond} (h : w ∈ tables_1_2) : w ∈ lw_tbl := List.mem_append_right _ (List.mem_append_right _ (List.mem_append_left _ h))
theorem il_3 {w : Cond} (h : w ∈ tables_1_3) : w ∈ lw_tbl := List.mem_append_right _ (List.mem_append_right _ (List.mem_append_right _ (List.mem_append_left _ h)))
theorem il_4 {w : Cond} (h : w ∈ tables_1_4) : w ∈ lw_tbl := List.mem_append_right _ (List.mem_append_right _ (List.mem_append_right _ (List.mem_append_right _ (List.mem_append_left _ h))))
theorem il_5 {w : Cond} (h : w ∈ tables_1_5) : w ∈ lw_tbl := List.mem_append_right _ (List.mem_append_right _ (List.mem_append_right _ (List.mem_append_right _ (List.mem_append_right _ (List.mem_append_left _ h)))))
theorem il_6 {w : Cond} (h : w ∈ tables_1_6) : w ∈ lw_tbl := List.mem_append_right _ (List.mem_append_right _ (List.mem_append_right _ (List.mem_append_right _ (List.mem_append_right _ (List.mem_append_right _ (List.mem_append_left _ h))))))
theorem nk_in : ∀ q ∈ nestL, Cond.methodLinkNest q.1 q.2.1 q.2.2.1 q.2.2.2 ∈ lw_tbl := List.forall_mem_cons.mpr ⟨il_1 (List.mem_of_getElem? (i := 31) rfl), List.forall_mem_cons.mpr ⟨il_1 (List.mem_of_getElem? (i := 87) rfl), List.forall_mem_cons.mpr ⟨il_1 (List.mem_of_getElem? (i := 115) rfl), List.forall_mem_cons.mpr ⟨il_1 (List.mem_of_getElem? (i := 206) rfl), List.forall_mem_cons.mpr ⟨il_2 (List.mem_of_getElem? (i := 1) rfl), List.forall_mem_cons.mpr ⟨il_2 (List.mem_of_getElem? (i := 22) rfl), List.forall_mem_cons.mpr ⟨il_2 (List.mem_of_getElem? (i := 41) rfl), List.forall_mem_cons.mpr ⟨il_2 (List.mem_of_getElem? (i := 64) rfl), List.forall_mem_cons.mpr ⟨il_2 (List.mem_of_getElem? (i := 92) rfl), List.forall_mem_cons.mpr ⟨il_2 (List.mem_of_getElem? (i := 230) rfl), List.forall_mem_cons.mpr ⟨il_3 (List.mem_of_getElem? (i := 239) rfl), List.forall_mem_cons.mpr ⟨il_5 (List.mem_of_getElem? (i := 86) rfl), fun _ h => absurd h (by simp)⟩⟩⟩⟩⟩⟩⟩⟩⟩⟩⟩⟩
theorem sr_in : ∀ i, i < 16 → Cond.stringRef RX9 (sIdx.getD i 0) (sTxt.getD i "") ∈ lw_tbl := fun i hi => match i, hi with
  | 0, _ => il_3 (List.mem_of_getElem? (i := 14) rfl)
  | 1, _ => il_3 (List.mem_of_getElem? (i := 91) rfl)
  | 2, _ => il_3 (List.mem_of_getElem? (i := 96) rfl)
  | 3, _ => il_3 (List.mem_of_getElem? (i := 97) rfl)
  | 4, _ => il_3 (List.mem_of_getElem? (i := 102) rfl)
  | 5, _ => il_3 (List.mem_of_getElem? (i := 114) rfl)
  | 6, _ => il_3 (List.mem_of_getElem? (i := 147) rfl)
  | 7, _ => il_3 (List.mem_of_getElem? (i := 161) rfl)
  | 8, _ => il_3 (List.mem_of_getElem? (i := 123) rfl)
  | 9, _ => il_3 (List.mem_of_getElem? (i := 124) rfl)
  | 10, _ => il_3 (List.mem_of_getElem? (i := 133) rfl)
  | 11, _ => il_3 (List.mem_of_getElem? (i := 134) rfl)
  | 12, _ => il_3 (List.mem_of_getElem? (i := 135) rfl)
  | 13, _ => il_3 (List.mem_of_getElem? (i := 136) rfl)
  | 14, _ => il_3 (List.mem_of_getElem? (i := 137) rfl)
  | 15, _ => il_3 (List.mem_of_getElem? (i := 146) rfl)
  | i + 16, h => absurd h (by omega)
theorem ao_6 : Cond.arrayOver (.object RX6) ∈ lw_tbl := il_1 (List.mem_of_getElem? (i := 84) rfl)
theorem ao_7 : Cond.arrayOver (.object RX7) ∈ lw_tbl := il_1 (List.mem_of_getElem? (i := 203) rfl)
theorem ao_8 : Cond.arrayOver (.object RX8) ∈ lw_tbl := il_2 (List.mem_of_getElem? (i := 62) rfl)
theorem ao_I : Cond.arrayOver (.array .int) ∈ lw_tbl := il_2 (List.mem_of_getElem? (i := 6) rfl)
theorem ls_C : Cond.laysStatic "java/lang/String" "COMPACT_STRINGS" "Z" ∈ lw_tbl := il_3 (List.mem_of_getElem? (i := 28) rfl)
theorem ls_P : Cond.laysStatic "jdk/internal/util/Preconditions" "SIOOBE_FORMATTER" "Ljava/util/function/BiFunction;" ∈ lw_tbl := il_3 (List.mem_of_getElem? (i := 44) rfl)
theorem en_D {s : State} {args : Array Value} (ht : ∀ w ∈ TB, w.before args s = true) : ∃ D : va_G, ∀ (c : Nat) (q : vw_C), vwCl[c]? = some q → u_Kn s q.1 q.2.1 q.2.2 (D.1 c) (D.2 c) := by
  have h : ∀ c : Nat, ∃ d : ClassId × (Nat → Nat), ∀ q : vw_C, vwCl[c]? = some q → u_Kn s q.1 q.2.1 q.2.2 d.1 d.2 := by
    intro c
    match c with
    | 0 =>
      obtain ⟨cC, iS, hK⟩ := u_known (C := RX0) (T := TX0) (N := 5) (n := 5) ht inX0 (ht _ wn_X0)
      exact ⟨(cC, iS), fun q hq => by cases hq; exact hK⟩
    | 1 =>
      obtain ⟨cC, iS, hK⟩ := u_known (C := RX1) (T := TX1) (N := 4) (n := 4) ht inX1 (ht _ wn_X1)
      exact ⟨(cC, iS), fun q hq => by cases hq; exact hK⟩
    | 2 =>
      obtain ⟨cC, iS, hK⟩ := u_known (C := RX2) (T := TX2) (N := 7) (n := 7) ht inX2 (ht _ wn_X2)
      exact ⟨(cC, iS), fun q hq => by cases hq; exact hK⟩
    | 3 =>
      obtain ⟨cC, iS, hK⟩ := u_known (C := RX3) (T := TX3) (N := 3) (n := 3) ht inX3 (ht _ wn_X3)
      exact ⟨(cC, iS), fun q hq => by cases hq; exact hK⟩
    | 4 =>
      obtain ⟨cC, iS, hK⟩ := u_known (C := RX4) (T := TX4) (N := 8) (n := 8) ht inX4 (ht _ wn_X4)
      exact ⟨(cC, iS), fun q hq => by cases hq; exact hK⟩
    | 5 =>
      obtain ⟨cC, iS, hK⟩ := u_known (C := RX5) (T := TX5) (N := 3) (n := 3) ht inX5 (ht _ wn_X5)
      exact ⟨(cC, iS), fun q hq => by cases hq; exact hK⟩
    | 6 =>
      obtain ⟨cC, iS, hK⟩ := u_known (C := RX6) (T := TX6) (N := 7) (n := 7) ht inX6 (ht _ wn_X6)
      exact ⟨(cC, iS), fun q hq => by cases hq; exact hK⟩
    | 7 =>
      obtain ⟨cC, iS, hK⟩ := u_known (C := RX7) (T := TX7) (N := 7) (n := 7) ht inX7 (ht _ wn_X7)
      exact ⟨(cC, iS), fun q hq => by cases hq; exact hK⟩
    | 8 =>
      obtain ⟨cC, iS, hK⟩ := u_known (C := RX8) (T := TX8) (N := 4) (n := 4) ht inX8 (ht _ wn_X8)
      exact ⟨(cC, iS), fun q hq => by cases hq; exact hK⟩
    | 9 =>
      obtain ⟨cC, iS, hK⟩ := u_known (C := RX9) (T := TX9) (N := 12) (n := 12) ht inX9 (ht _ wn_X9)
      exact ⟨(cC, iS), fun q hq => by cases hq; exact hK⟩
    | 10 =>
      obtain ⟨cC, iS, hK⟩ := u_known (C := RX10) (T := TX10) (N := 4) (n := 4) ht inX10 (ht _ wn_X10)
      exact ⟨(cC, iS), fun q hq => by cases hq; exact hK⟩
    | 11 =>
      obtain ⟨cC, iS, hK⟩ := u_known (C := RX11) (T := TX11) (N := 12) (n := 12) ht inX11 (ht _ wn_X11)
      exact ⟨(cC, iS), fun q hq => by cases hq; exact hK⟩
    | 12 =>
      obtain ⟨cC, iS, hK⟩ := u_known (C := RX12) (T := TX12) (N := 36) (n := 36) ht inX12 (ht _ wn_X12)
      exact ⟨(cC, iS), fun q hq => by cases hq; exact hK⟩
    | c + 13 => exact ⟨(0, fun _ => 0), fun q hq => by
        rw [show vwCl[c + 13]? = none by rw [List.getElem?_eq_none_iff]; show 13 ≤ c + 13; omega] at hq
        cases hq⟩
  exact ⟨(fun c => (Classical.choose (h c)).1, fun c => (Classical.choose (h c)).2), fun c => Classical.choose_spec (h c)⟩
theorem en_pr {s : State} {args : Array Value} {ty : FieldType} (hn : ∀ C, ty ≠ .object C) (h : (Cond.arrayClass ty).before args s = true) : ∃ cA, ArrOfT s cA ty ∧ va_RA s cA ty := by
  obtain ⟨cA, kA, comp, h1, h2, h3⟩ := Cond.arrayClass_spec h
  refine ⟨cA, fun n z => ⟨fun k h => (by cases h), kA, h2, comp, h3⟩, ?_⟩
  cases ty with
  | object C => exact absurd rfl (hn C)
  | _ => exact h1
theorem en_ob {s : State} {args : Array Value} {C : String} (h : (Cond.arrayOver (.object C)).before args s = true) : ∃ cA, ArrOfT s cA (.object C) ∧ va_RA s cA (.object C) := by
  obtain ⟨comp, cA, kA, h1, h2, h3, h4, h5⟩ := Cond.arrayOver_spec h
  exact ⟨cA, fun n z => ⟨fun k h => (by cases h), kA, h3, comp, h4⟩, kA, comp, h3, h4, h1, h5⟩
theorem en_C {s : State} {args : Array Value} (hl : ∀ w ∈ lw_tbl, w.before args s = true) (ht : ∀ w ∈ TB, w.before args s = true) : ∃ cs : Nat → ClassId, (∀ (k : Nat) (q : ClassId × FieldType), (tyA cs)[k]? = some q → ArrOfT s q.1 q.2 ∧ va_RA s q.1 q.2) ∧ ∃ kA : Class, s.vm.classes[cs 7]? = some kA ∧ kA.kind = .array (cs 0) (.array .int) := by
  obtain ⟨c0, a0, r0⟩ := en_pr (by intro C h; cases h) (ht _ wA_int)
  obtain ⟨c1, h1⟩ := en_pr (by intro C h; cases h) (ht _ wA_byte)
  obtain ⟨c2, h2⟩ := en_pr (by intro C h; cases h) (ht _ wA_boolean)
  obtain ⟨c3, h3⟩ := en_pr (by intro C h; cases h) (ht _ wA_long)
  obtain ⟨c4, h4⟩ := en_ob (hl _ ao_6)
  obtain ⟨c5, h5⟩ := en_ob (hl _ ao_7)
  obtain ⟨c6, h6⟩ := en_ob (hl _ ao_8)
  obtain ⟨comp, c7, k7, g1, g2, g3, g4, g5⟩ := arrayOverA_spec (hl _ ao_I)
  have e0 : comp = c0 := by
    have q1 : s.vm.findClass "[I" = some c0 := va_nm_int r0
    have q2 : (FieldType.array .int).toString = "[I" := by decide +kernel
    rw [q2, q1] at g1
    exact (Option.some.inj g1).symm
  subst e0
  refine ⟨fun k => match k with | 0 => comp | 1 => c1 | 2 => c2 | 3 => c3 | 4 => c4 | 5 => c5 | 6 => c6 | _ => c7, ?_, k7, g3, g4⟩
  intro k q hq
  match k, hq with
  | 0, hq => cases hq; exact ⟨a0, r0⟩
  | 1, hq => cases hq; exact h1
  | 2, hq => cases hq; exact h2
  | 3, hq => cases hq; exact h3
  | 4, hq => cases hq; exact h4
  | 5, hq => cases hq; exact h5
  | 6, hq => cases hq; exact h6
  | 7, hq => cases hq; exact ⟨fun n z => ⟨fun k h => (by cases h), k7, g3, comp, g4⟩, g5⟩
  | k + 8, hq =>
    exfalso
    have : ∀ cs : Nat → ClassId, (tyA cs)[k + 8]? = none := fun cs => by
      rw [List.getElem?_eq_none_iff]
      show 8 ≤ k + 8
      omega
    rw [this] at hq
    cases hq
theorem enter {s : State} {b : Nat} (hl : ∀ w ∈ lw_tbl, w.before #[Value.ref b] s = true) (hgv : (Cond.and given_1 narrow_1).before #[Value.ref b] s = true) : ∃ G : GG, gB G = s.heap.size ∧ KC G s ∧ KK 0 G s := by
  have ht : ∀ w ∈ TB, w.before #[Value.ref b] s = true := fun w hw => hl w (List.mem_filter.mp hw).1
  have hv := flat_of_before _ hgv
  obtain ⟨D, hD⟩ := en_D ht
  obtain ⟨cs, hcs, kA, hA1, hA2⟩ := en_C hl ht
  have hA : ∀ a : Nat, a < s.heap.size → ¬ (fun q => s.heap.size + 0 ≤ q ∧ q < s.heap.size + 213) a := fun a h1 h2 => by
    have := h2.1
    omega
  obtain ⟨aK, aV, hS, hE⟩ := vk_Sof (N := 16) (tm := tmS) (len := sLen) (byt := sByt) (A := fun q => s.heap.size + 0 ≤ q ∧ q < s.heap.size + 213) (args := #[Value.ref b]) (s := s) (by decide) (fun i hi => hv _ (nr_ex i hi)) (fun i hi => hv _ (nr_co i hi)) (fun i hi => hv _ (nr_ar i hi)) (fun i hi => hv _ (nr_le i hi)) (fun i hi j hj => hv _ (nr_el i hi j hj)) (fun i j hi hj hij => (nr_ne i hi j hj hij).imp (hv _) (hv _)) hA
  have hN : NK s := fun q hq => va_Nw.of rfl (hl _ (nk_in q hq))
  have hK : va_K D vwCl (tyA cs) s := ⟨hD, hcs⟩
  refine ⟨(D, cs, s.heap.size, aK, aV), rfl, ⟨hK, hN, va_AO.of (hl _ ao_6), va_AO.of (hl _ ao_7), va_AO.of (hl _ ao_8), kA, hA1, hA2⟩, hK, fun _ => ⟨hN, hS, fun i hi => vk_R.of (hl _ (sr_in i hi)) (hE i hi), ?_, ?_⟩⟩
  · exact va_Zof (hl _ ls_C) (ht _ wi_J0) (va_eqt (hv _ nr_cs)) hA
  · exact va_Zqof (hl _ ls_P) (ht _ wi_J3) (hv _ nr_si) hA
