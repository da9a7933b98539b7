/-- from the entry, for every script of at most 320 ints, the law comes to its end with true -/
theorem whole_start {p : Program} {e : Env} {s : State} {m : MethodId} {below : List Frame} {meth : Method} {c : Code} (l : Launch) (hflags : l.flags = flags0) {b L : Nat} {xs : Nat → Int32} (hL : L ≤ 320) (C0 : lw_At p s m meth c b L xs) : W p l e room_1 s m #[Value.ref b] below meth c s.heap [] 0 0 (lw_Z below #[Value.ref b] s) (entryFrame m ([Value.ref b] : List Value).toArray 4) := by
  obtain ⟨hx, hb, hr, hml, hown, hts, hX, hbl, hlk, hgv⟩ := C0
  obtain ⟨G, hG, hKC, hKK⟩ := enter hts hgv
  have C : GX p s m #[Value.ref b] c code 4 "SnowSentriesLaw" := ⟨hx, hb, hml, hown, fun w hw => hts w (List.mem_filter.mp hw).1⟩
  obtain ⟨Ma, hMa, -⟩ := e_wipe (M := Mz) (d := 141)
  obtain ⟨Mb, hMb, -⟩ := e_wipe (M := Mz) (d := 177)
  have hg : LG s G (shG G 213) := ⟨hG, by show gB G + 213 = s.heap.size + 213; rw [hG], hKK, hKK.1, fun h => absurd h (by decide)⟩
  suffices Z0 : Zg p l e room_1 s m #[Value.ref b] below meth c 4 (lw_Z below #[Value.ref b] s) 0 0 (FC s G 0 0 (fun _ => .inr (11, []))) 0 [(0, .ref b)] [] by
    rw [lg_entry_eq]
    exact Z0 s.heap [] _ ⟨fun k x hx => absurd (cw_key hx).1 (by omega), va_S.rf⟩ (lv_entry _ (show 1 ≤ 4 by decide))
  refine k_new (n := 0) (cells := 0) (slots := 0) (ci := 11) (fs := [.null, .null, .null, .null, .null, .null, .null, .null, .null, .null, .null, .int 0]) C hKC.1 (by omega) (by omega) (by omega) inX11 tyX11 tyX11_ok wk_L_7 wn_X11 wi_X11 rfl df_X11 (Nat.le_of_ble_eq_true rfl) (Nat.le_of_ble_eq_true rfl) dl_0 ?_
  refine g_dup C dl_3 rfl ?_
  refine k_cI (a := 0) (cells := 1) (slots := 12) C hKC (n_X11_init l G hMa hMb) (by omega) (by omega) (by omega) (up1_s _ _ _) wc_X11_init wm_L_9 ws_X11_init wi_X11 rfl hy_X11_init ⟨(Nat.le_of_ble_eq_true rfl), (Nat.le_of_ble_eq_true rfl)⟩ (Nat.le_of_ble_eq_true rfl) ⟨(Nat.le_of_ble_eq_true rfl), (Nat.le_of_ble_eq_true rfl)⟩ dl_4 ?_
  refine g_F (F2 := FC s G 0 213 (EU 0 G (Mi Ma Mb))) (FC.c (fun i _ _ => jn_ge (Nat.zero_le i))) ?_
  refine g_astore_n (L' := [(1, .ref (gB G + 0)), (0, .ref b)]) C dl_7 rfl (by decide) rfl ?_
  refine k_new (n := 213) (cells := 213) (slots := 2289) (ci := 12) (fs := [.null, .int 0, .null, .null, .null, .int 0, .int 0, .null, .null, .null, .null, .int 0, .int 0, .int 0, .int 0, .int 0, .null, .int 0, .int 0, .int 0, .int 0, .int 0, .int 0, .int 0, .int 0, .null, .null, .null, .null, .null, .int 0, .null, .null, .null, .null, .int 0]) C hKC.1 (by omega) (by omega) (by omega) inX12 tyX12 tyX12_ok wk_L_10 wn_X12 wi_X12 rfl df_X12 (Nat.le_of_ble_eq_true rfl) (Nat.le_of_ble_eq_true rfl) dl_8 ?_
  refine g_dup C dl_11 rfl ?_
  refine k_cI (a := 213) (cells := 214) (slots := 2325) C hKC (CN.shift (n_X12_init l (shG G 213))) (by omega) (by omega) (by omega) (up1_s _ _ _) wc_X12_init wm_L_12 ws_X12_init wi_X12 rfl hy_X12_init ⟨(Nat.le_of_ble_eq_true rfl), (Nat.le_of_ble_eq_true rfl)⟩ (Nat.le_of_ble_eq_true rfl) ⟨(Nat.le_of_ble_eq_true rfl), (Nat.le_of_ble_eq_true rfl)⟩ dl_12 ?_
  refine g_F (F2 := FL s G (shG G 213) (Mi Ma Mb) Ni) (fl_of hG (fun i hi => (jn_lt hi).trans (up1_n (by omega))) (fun i hi => (jn_ge (by omega)).trans (by rw [Nat.add_sub_cancel_left]))) ?_
  refine g_astore_n (L' := [(2, .ref (gB (shG G 213) + 0)), (1, .ref (gB G + 0)), (0, .ref b)]) C dl_15 rfl (by decide) rfl ?_
  refine g_iconst (v := nI 0) C dl_16 (by decide) ?_
  refine g_istore_n (L' := [(3, .int (nI 0)), (2, .ref (gB (shG G 213) + 0)), (1, .ref (gB G + 0)), (0, .ref b)]) C dl_17 rfl (by decide) rfl ?_
  refine l_loop C hX hbl hL hg ⟨(Nat.le_of_ble_eq_true rfl), (Nat.le_of_ble_eq_true rfl)⟩ (fun M N i => ?_) 64 0 _ _ (by omega) (by omega) (rel0 hMa hMb)
  refine g_iconst (v := 1) C dl_1602 rfl ?_
  intro H locs ls hF hl
  exact va_forget (fun q hq => hF.2.2.2.2 q hq) (W.widen (Nat.le_of_ble_eq_true rfl) (Nat.le_of_ble_eq_true rfl) (lw_ret hx hb hr hlk dl_1603.1))
