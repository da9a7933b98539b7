-- Math, arraycopy, switches; peeling of what a function of the memory says
section ZM
variable {p : Program} {l : Launch} {e : Env} {R : Room} {s : State} {m : MethodId} {args : Array Value} {below : List Frame} {meth : Method} {c : Code} {u : Nat} {G : GG} {nL : Nat} {Q : State → Prop} {pc pc' : Nat} {L L' : List (Nat × Value)} {S : List Value} {M M2 : Mm} {cc : ByteArray} {own : String} {a : Nat} {idx : Nat}
def iMax (x y : Int32) : Int32 := if x < y then y else x
def iMin (x y : Int32) : Int32 := if y < x then y else x
def iAbs (x : Int32) : Int32 := if 0 ≤ x then x else 0 - x
theorem z_mmax {x y : Int32} (C : CX p s m args c cc nL own u G) (w1 : Cond.methodLink own idx Lib.Math.max.name ∈ TB) (w2 : Cond.static Lib.Math.max.name ∈ TB) (w3 : Cond.initialized "java/lang/Math" ∈ TB) (w4 : Cond.code Lib.Math.max.name Lib.Math.max.code 2 (some .int) ∈ TB) (hf : 1 ≤ R.frames) (ho : (S.map fun v => v.category).sum + 13 ≤ R.locals) (hd : DD cc pc (.invokestatic idx) 3 pc')
    (h : Z p l e R s m args below meth c u G nL Q pc' L (.int (iMax x y) :: S) M) : Z p l e R s m args below meth c u G nL Q pc L (.int y :: .int x :: S) M := by
  obtain ⟨d, rfl⟩ := hd
  intro H locs ls hP hS hl
  have ht := C.2.2.2.2.1
  exact va_mmax C.1 C.2.1 (C.2.2.1.trans hl.1.symm) C.2.2.2.1 (ht _ w1) (ht _ w2) (ht _ w3) (ht _ w4) hf ho (Nat.zero_le _) (Nat.zero_le _) d (h H locs ls hP hS hl)
theorem z_mmin {x y : Int32} (C : CX p s m args c cc nL own u G) (w1 : Cond.methodLink own idx Lib.Math.min.name ∈ TB) (w2 : Cond.static Lib.Math.min.name ∈ TB) (w3 : Cond.initialized "java/lang/Math" ∈ TB) (w4 : Cond.code Lib.Math.min.name Lib.Math.min.code 2 (some .int) ∈ TB) (hf : 1 ≤ R.frames) (ho : (S.map fun v => v.category).sum + 13 ≤ R.locals) (hd : DD cc pc (.invokestatic idx) 3 pc')
    (h : Z p l e R s m args below meth c u G nL Q pc' L (.int (iMin x y) :: S) M) : Z p l e R s m args below meth c u G nL Q pc L (.int y :: .int x :: S) M := by
  obtain ⟨d, rfl⟩ := hd
  intro H locs ls hP hS hl
  have ht := C.2.2.2.2.1
  exact va_mmin C.1 C.2.1 (C.2.2.1.trans hl.1.symm) C.2.2.2.1 (ht _ w1) (ht _ w2) (ht _ w3) (ht _ w4) hf ho (Nat.zero_le _) (Nat.zero_le _) d (h H locs ls hP hS hl)
theorem z_mabs {x : Int32} (C : CX p s m args c cc nL own u G) (w1 : Cond.methodLink own idx Lib.Math.abs.name ∈ TB) (w2 : Cond.static Lib.Math.abs.name ∈ TB) (w3 : Cond.initialized "java/lang/Math" ∈ TB) (w4 : Cond.code Lib.Math.abs.name Lib.Math.abs.code 1 (some .int) ∈ TB) (hf : 1 ≤ R.frames) (ho : (S.map fun v => v.category).sum + 13 ≤ R.locals) (hd : DD cc pc (.invokestatic idx) 3 pc')
    (h : Z p l e R s m args below meth c u G nL Q pc' L (.int (iAbs x) :: S) M) : Z p l e R s m args below meth c u G nL Q pc L (.int x :: S) M := by
  obtain ⟨d, rfl⟩ := hd
  intro H locs ls hP hS hl
  have ht := C.2.2.2.2.1
  exact va_mabs C.1 C.2.1 (C.2.2.1.trans hl.1.symm) C.2.2.2.1 (ht _ w1) (ht _ w2) (ht _ w3) (ht _ w4) hf ho (Nat.zero_le _) (Nat.zero_le _) d (h H locs ls hP hS hl)
/-- System.arraycopy of a whole row of ints into another -/
theorem z_copy {b n : Nat} {N : Int32} (hE : ∀ r q, EV u G a r q = .inl (gC G 0, n, .inl r)) (hE2 : ∀ r q, EV u G b r q = .inl (gC G 0, n, .inl r)) (C : CX p s m args c cc nL own u G) (ha : inW u a) (hb : inW u b) (hN : N.toNatClampNeg = n) (hN0 : ¬ N < 0) (w1 : Cond.methodLink own idx arraycopyName ∈ TB) (w2 : Cond.native arraycopyName ∈ TB) (w3 : Cond.static arraycopyName ∈ TB) (w4 : Cond.initialized "java/lang/System" ∈ TB) (hf : 1 ≤ R.frames) (ho : (S.map fun v => v.category).sum + (nativeFrameWords "java/lang/System" "arraycopy" 5 + 11) ≤ R.locals) (hd : DD cc pc (.invokestatic idx) 3 pc')
    (h : Z p l e R s m args below meth c u G nL Q pc' L S (wR M b (va_cpy (M.1 a) (M.1 b) 0 0 n))) : Z p l e R s m args below meth c u G nL Q pc L (.int N :: .int 0 :: .ref (gB G + b) :: .int 0 :: .ref (gB G + a) :: S) M := by
  obtain ⟨d, rfl⟩ := hd
  intro H locs ls hP hS hl
  have ht := C.2.2.2.2.1
  refine va_copyi (ws := cw (gB G) (wlo u) (whi u) (EU u G M)) (f := M.1 a) (g := M.1 b) (ty := .int) C.1 C.2.1 (C.2.2.1.trans hl.1.symm) C.2.2.2.1 (ht _ w1) (ht _ w2) (ht _ w3) (ht _ w4) C.2.2.2.2.2.1 hP cw_D hS (a - wlo u) (b - wlo u) 0 0 ((cw_at ha.1 ha.2).trans (by unfold EU; rw [hE])) ((cw_at hb.1 hb.2).trans (by unfold EU; rw [hE2])) rfl rfl rfl (by decide) (by decide) hN0 (by rw [hN]; show 0 + n ≤ n; omega) (by rw [hN]; show 0 + n ≤ n; omega) (fun i _ => rfl) hf ho d (fun H1 locs1 hP1 _ hS1 => ?_)
  rw [hN] at hP1
  rw [cw_set (E' := EU u G (wR M b (va_cpy (M.1 a) (M.1 b) 0 0 n))) hb.1 (fun b hb => EU_wR hb) (by unfold EU; rw [hE2, wR_row]; rfl)] at hP1
  exact h H1 locs1 ls hP1 hS1 hl
/-- a switch: to the place that the number has -/
theorem z_tsw {dflt lo hi : Int} {offs : Array Int} {len : Nat} {x : Int32} (C : CX p s m args c cc nL own u G) (hd : DD cc pc (.tableswitch dflt lo hi offs) len pc') {tgt : Nat} (ht : (x.toInt < lo ∨ hi < x.toInt) ∧ (pc : Int) + dflt = tgt ∨ ∃ off, ¬ x.toInt < lo ∧ ¬ hi < x.toInt ∧ offs[(x.toInt - lo).toNat]? = some off ∧ (pc : Int) + off = tgt)
    (h : Z p l e R s m args below meth c u G nL Q tgt L S M) : Z p l e R s m args below meth c u G nL Q pc L (.int x :: S) M := by
  obtain ⟨d, rfl⟩ := hd
  intro H locs ls hP hS hl
  rcases ht with ⟨h1, h2⟩ | ⟨off, h1, h2, h3, h4⟩
  · exact lv_tableOut C.1 C.2.1 d h1 h2 (h H locs ls hP hS hl)
  · exact lv_tableIn C.1 C.2.1 d h1 h2 h3 h4 (h H locs ls hP hS hl)
theorem z_lsw {dflt : Int} {ps : Array (Int × Int)} {len : Nat} {x : Int32} {off : Int} {tgt : Nat} (C : CX p s m args c cc nL own u G) (hd : DD cc pc (.lookupswitch dflt ps) len pc') (hp : (ps.toList.zip (ps.toList.drop 1)).all (fun (a, next) => a.1 < next.1) = true) (ho : Op.lookupswitch.offset ps.toList dflt x.toInt = off) (ht : (pc : Int) + off = (tgt : Int))
    (h : Z p l e R s m args below meth c u G nL Q tgt L S M) : Z p l e R s m args below meth c u G nL Q pc L (.int x :: S) M := by
  obtain ⟨d, rfl⟩ := hd
  intro H locs ls hP hS hl
  exact lv_lookup C.1 C.2.1 d hp ho ht (h H locs ls hP hS hl)
end ZM
-- peeling
def ck {α : Type} (b : Prop) [Decidable b] (x : Option α) : Option α := if b then x else none
theorem o_ck {α : Type} {b : Prop} [Decidable b] {x : Option α} {o : α} (h : ck b x = some o) : b ∧ x = some o := by
  unfold ck at h
  split at h
  · exact ⟨by assumption, h⟩
  · cases h
theorem o_t {α : Type} {b : Prop} [Decidable b] {x y : Option α} {o : α} (hb : b) (h : (if b then x else y) = some o) : x = some o := by rw [if_pos hb] at h; exact h
theorem o_f {α : Type} {b : Prop} [Decidable b] {x y : Option α} {o : α} (hb : ¬ b) (h : (if b then x else y) = some o) : y = some o := by rw [if_neg hb] at h; exact h
def wr {α : Type} (M : Mm) (k : Mm → Option α) : Option α := k M
theorem o_wr {α : Type} {M : Mm} {k : Mm → Option α} {o : α} (h : wr M k = some o) : ∃ M2, M2 = M ∧ k M2 = some o := ⟨M, rfl, h⟩
def nm {α β : Type} (x : β) (k : β → Option α) : Option α := k x
theorem o_nm {α β : Type} {x : β} {k : β → Option α} {o : α} (h : nm x k = some o) : ∃ y, y = x ∧ k y = some o := ⟨x, rfl, h⟩
def bd {α β : Type} (x : Option β) (k : β → Option α) : Option α := x.bind k
theorem o_bd {α β : Type} {x : Option β} {k : β → Option α} {o : α} (h : bd x k = some o) : ∃ y, x = some y ∧ k y = some o := by
  unfold bd at h
  exact Option.bind_eq_some_iff.mp h
abbrev isB (x : Int32) : Prop := x = 0 ∨ x = 1
theorem o_some {α : Type} {x o : α} (h : some x = some o) : o = x := (Option.some.inj h).symm
theorem isB_nar {x : Int32} (h : isB x) : narrow .boolean (.int x) = .int x := by rcases h with rfl | rfl <;> decide
theorem isB_fit {x : Int32} (h : isB x) : fits .boolean (.int x) = true := by rcases h with rfl | rfl <;> decide
theorem o_pair {α β : Type} {a r : α} {b m : β} (h : some (a, b) = some (r, m)) : r = a ∧ m = b := by
  have h1 := Option.some.inj h
  exact ⟨(congrArg Prod.fst h1).symm, (congrArg Prod.snd h1).symm⟩
