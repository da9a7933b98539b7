-- THE LAW'S START
theorem wk_L_7 : Cond.classLink "SnowSentriesLaw" 7 "SnowSentries" ∈ TB := it_1 (List.mem_of_getElem? (i := 21) rfl) rfl
theorem wm_L_9 : Cond.methodLink "SnowSentriesLaw" 9 y_X11_init ∈ TB := it_1 (List.mem_of_getElem? (i := 23) rfl) rfl
theorem ws_X11_init : Cond.instanceMethod y_X11_init ∈ TB := it_1 (List.mem_of_getElem? (i := 24) rfl) rfl
theorem wc_X11_init : Cond.code y_X11_init prog_1_method_1_code 2 none ∈ TB := it_1 (List.mem_of_getElem? (i := 25) rfl) rfl
theorem hy_X11_init : (y_X11_init).cls ≠ "java/lang/invoke/MethodHandle" ∧ (y_X11_init).cls ≠ "java/lang/invoke/VarHandle" ∧ (parseMethodDescriptor (y_X11_init).desc).map (fun d => d.parameters.length) = some 0 := by decide +kernel
theorem wk_L_10 : Cond.classLink "SnowSentriesLaw" 10 "SnowSentriesModel" ∈ TB := it_5 (List.mem_of_getElem? (i := 104) rfl) rfl
theorem wm_L_12 : Cond.methodLink "SnowSentriesLaw" 12 y_X12_init ∈ TB := it_5 (List.mem_of_getElem? (i := 106) rfl) rfl
theorem ws_X12_init : Cond.instanceMethod y_X12_init ∈ TB := it_5 (List.mem_of_getElem? (i := 107) rfl) rfl
theorem wc_X12_init : Cond.code y_X12_init prog_14_method_1_code 1 none ∈ TB := it_5 (List.mem_of_getElem? (i := 108) rfl) rfl
theorem hy_X12_init : (y_X12_init).cls ≠ "java/lang/invoke/MethodHandle" ∧ (y_X12_init).cls ≠ "java/lang/invoke/VarHandle" ∧ (parseMethodDescriptor (y_X12_init).desc).map (fun d => d.parameters.length) = some 0 := by decide +kernel
theorem dl_0 : DD code 0 (.new 7) 3 3 := ⟨by decide +kernel, rfl⟩
theorem dl_3 : DD code 3 (.dup) 1 4 := ⟨by decide +kernel, rfl⟩
theorem dl_4 : DD code 4 (.invokespecial 9) 3 7 := ⟨by decide +kernel, rfl⟩
theorem dl_7 : DD code 7 (.astore_n 1) 1 8 := ⟨by decide +kernel, rfl⟩
theorem dl_8 : DD code 8 (.new 10) 3 11 := ⟨by decide +kernel, rfl⟩
theorem dl_11 : DD code 11 (.dup) 1 12 := ⟨by decide +kernel, rfl⟩
theorem dl_12 : DD code 12 (.invokespecial 12) 3 15 := ⟨by decide +kernel, rfl⟩
theorem dl_15 : DD code 15 (.astore_n 2) 1 16 := ⟨by decide +kernel, rfl⟩
theorem dl_16 : DD code 16 (.iconst 0) 1 17 := ⟨by decide +kernel, rfl⟩
theorem dl_17 : DD code 17 (.istore_n 3) 1 18 := ⟨by decide +kernel, rfl⟩
/-- the same world, d cells further on -/
def shG (G : GG) (d : Nat) : GG := (G.1, G.2.1, G.2.2.1 + d, G.2.2.2)
theorem cw_sh (B d n : Nat) (E : Nat → va_E) : cw (B + d) 0 n E = cw B d (d + n) (fun i => E (i - d)) := by
  unfold cw
  rw [Nat.sub_zero, Nat.add_sub_cancel_left]
  apply List.map_congr_left
  intro i _
  show (B + d + (0 + i), E (0 + i)) = (B + (d + i), E (d + i - d))
  rw [Nat.zero_add, Nat.add_sub_cancel_left, Nat.add_assoc]
theorem CN.shift {l : Launch} {G : GG} {d : Nat} {y : MethodName} {cc : ByteArray} {nL fr lo k sl : Nat} {E0 : va_E} {E1 : Nat → va_E} (h : CN l (shG G d) y cc nL fr lo k sl 0 E0 E1) : CN l G y cc nL fr lo k sl d E0 (fun i => E1 (i - d)) := by
  have e1 : CNp (shG G d) 0 E0 = CNp G d E0 := by
    show va_Pc [.ref (gB G + d)] (fun U => va_P (gD G) vwCl (cw (gB G + d) 0 1 (fun _ => E0)) U.heap ∧ U.heap.size = gB G + d + 1 ∧ KC G U) = va_Pc [.ref (gB G + d)] (fun U => va_P (gD G) vwCl (cw (gB G) d (d + 1) (fun _ => E0)) U.heap ∧ U.heap.size = gB G + (d + 1) ∧ KC G U)
    rw [cw_sh, Nat.add_assoc (gB G) d 1]
  have e2 : CNq (shG G d) 0 k E1 = CNq G d k (fun i => E1 (i - d)) := by
    funext a st oc t
    show (oc = .returned none ∧ va_P (gD G) vwCl (cw (gB G + d) 0 (0 + k + 1) E1) t.heap ∧ va_F (Aa G d) st t) = (oc = .returned none ∧ va_P (gD G) vwCl (cw (gB G) d (d + k + 1) (fun i => E1 (i - d))) t.heap ∧ va_F (Aa G d) st t)
    rw [cw_sh, show d + (0 + k + 1) = d + k + 1 by omega]
  have e3 : Aa (shG G d) 0 = Aa G d := rfl
  unfold CN at h ⊢
  rw [e1, e2, e3] at h
  exact h
theorem fl_of {s : State} {G : GG} {M N : Mm} {E : Nat → va_E} (hG : gB G = s.heap.size) (h1 : ∀ i, i < 213 → E i = EU 0 G M i) (h2 : ∀ i, i < 19 → E (213 + i) = EU 1 (shG G 213) N i) (H : Heap) (locs : List Loc) (hF : FC s G 0 232 E H locs) : FL s G (shG G 213) M N H locs := by
  obtain ⟨hP, hS⟩ := hF
  refine ⟨fun k x hx => ?_, fun k x hx => ?_, ?_⟩
  · obtain ⟨q1, rfl⟩ := cw_key hx
    have q2 : 0 + k < 213 := q1
    have e := cw_at (B := gB G) (E := E) (a := k) (n0 := 0) (n1 := 232) (by omega) (by omega)
    rw [h1 k (by omega), Nat.sub_zero] at e
    rw [show wlo 0 + k = k from Nat.zero_add k]
    exact hP k _ e
  · obtain ⟨q1, rfl⟩ := cw_key hx
    have q2 : 0 + k < 19 := q1
    have e := cw_at (B := gB G) (E := E) (a := 213 + k) (n0 := 0) (n1 := 232) (by omega) (by omega)
    rw [h2 k (by omega), Nat.sub_zero] at e
    rw [show wlo 1 + k = k from Nat.zero_add k, show gB (shG G 213) + k = gB G + (213 + k) from Nat.add_assoc (gB G) 213 k]
    exact hP (213 + k) _ e
  · have e : Aa G 0 = A9 s := by
      funext q
      show (gB G + 0 ≤ q) = (s.heap.size ≤ q)
      rw [hG, Nat.add_zero]
    rw [← e]
    exact hS
