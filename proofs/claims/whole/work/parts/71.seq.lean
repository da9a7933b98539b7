-- THE READING: broken, and step by step
theorem bd_bd {α β γ : Type} (x : Option α) (f : α → Option β) (h : β → Option γ) : bd (bd x f) h = bd x (fun p => bd (f p) h) := by
  cases x <;> rfl
theorem bd_ite {α β : Type} {c : Prop} [Decidable c] (a b : Option α) (h : α → Option β) : bd (if c then a else b) h = if c then bd a h else bd b h := by
  split <;> rfl
theorem bd_ck {α β : Type} {c : Prop} [Decidable c] (a : Option α) (h : α → Option β) : bd (ck c a) h = ck c (bd a h) := by
  unfold ck
  split <;> rfl
theorem bd_wr {α β : Type} (M : Mm) (k : Mm → Option α) (h : α → Option β) : bd (wr M k) h = wr M (fun x => bd (k x) h) := rfl
theorem bd_nm {α β γ : Type} (x : γ) (k : γ → Option α) (h : α → Option β) : bd (nm x k) h = nm x (fun x => bd (k x) h) := rfl
theorem BR.ne {g : Gg} {N : Mm} (h : BR g N) : ¬ N.1 0 19 = 0 ∧ ¬ N.1 0 19 ≤ 0 := by
  obtain ⟨-, ⟨c, h1, h2, e⟩, -⟩ := h
  rw [e]
  exact ⟨nI_ne0 (by omega) (by omega), nI_nle (by omega) (by omega)⟩
theorem step_b {g : Gg} {N : Mm} (h : BR g N) : f_X12_step N = some N := by
  unfold f_X12_step
  rw [if_neg h.ne.2]
theorem fails_b {g : Gg} {N : Mm} (h : BR g N) (c : Int32) : f_X12_fails N c = some N := by
  unfold f_X12_fails f_X12_fails_20
  rw [if_neg h.ne.1]
theorem looks_b {g : Gg} {N : Mm} (h : BR g N) (x y : Int32) : f_X12_looks N x y = some N := by
  unfold f_X12_looks f_X12_looks_20 f_X12_looks_47
  rw [if_neg h.ne.1, if_neg h.ne.1]
theorem number_b {g : Gg} {N : Mm} (h : BR g N) (x y : Int32) : f_X12_number N x y = some (x, N) := by
  unfold f_X12_number f_X12_number_21
  rw [looks_b h, bd_s, if_neg h.ne.1, step_b h, bd_s]
theorem fur_b {g : Gg} {N : Mm} (h : BR g N) : ∃ v, f_X12_furlongHere N = some (0, wI N 0 15 v) := by
  unfold f_X12_furlongHere f_X12_furlongHere_22 f_X12_furlongHere_40
  rw [looks_b h, bd_s, if_neg h.ne.1]
  by_cases g : (0 : Int32) ≤ N.1 0 15
  · rw [if_pos g]
    exact ⟨_, rfl⟩
  · rw [if_neg g]
    exact ⟨_, rfl⟩
theorem name_b {g : Gg} (hg : OKg g) {N : Mm} (h : BR g N) {lo hi : Nat} (h1 : lo ≤ hi) (h2 : hi ≤ 16) : ∃ s, s ≤ hi - lo ∧ f_X12_name N (nI lo) (nI hi) = some (nI s, N) := by
  have hr : ∃ r, f_X12_nameHere N = some r ∧ (r = -4 ∨ ∃ w, w < 16 ∧ r = nI w) := by
    by_cases z : N.1 0 23 = 1
    · obtain ⟨st, q, a1, a2, a3, a4⟩ := h.2.2 z
      obtain ⟨r, b1, b2⟩ := nh2 hg h.1 z a3 a4 (Nat.le_of_lt a1) a2 16 0 FU (by omega) (by decide)
      refine ⟨r, b1, ?_⟩
      rcases b2 with ⟨e, -⟩ | ⟨w, hw, e, -⟩
      · exact Or.inl e
      · exact Or.inr ⟨w, hw, e⟩
    · exact ⟨-4, nh0 z, Or.inl rfl⟩
  obtain ⟨r, b1, bb⟩ := hr
  unfold f_X12_name f_X12_name_24
  rw [b1, bd_s, show f_X12_in r.toInt64 (nI lo).toInt64 (nI hi).toInt64 = some (b2 (inR r (nI lo) (nI hi))) from e_inI _ _ _, bd_s]
  by_cases z : inR r (nI lo) (nI hi)
  · rw [if_neg (fun q => b2_0.mp q z), step_b h, bd_s]
    rcases bb with e | ⟨w, hw, e⟩
    · rw [e] at z
      exact absurd (Int32.le_trans (nI_pos' (n := lo) (by omega)) z.1) (by decide)
    · rw [e] at z
      have z1 := (nI_leI (by omega) (by omega)).mp z.1
      have z2 := (nI_leI (by omega) (by omega)).mp z.2
      exact ⟨w - lo, by omega, by rw [e, pk_sub z1]⟩
  · rw [if_pos (b2_0.mpr z), fails_b h, bd_s, step_b h, bd_s]
    exact ⟨0, by omega, by rw [pk_sub (Nat.le_refl _), Nat.sub_self]⟩
theorem BR.w {g : Gg} {N : Mm} (h : BR g N) {a k : Nat} (o : OY a k) (v : Int32) : BR g (wI N a k v) ∧ (wI N a k v).1 0 19 = N.1 0 19 ∧ (wI N a k v).1 0 20 = N.1 0 20 := by
  have e : ∀ j, 19 ≤ j → (wI N a k v).1 0 j = N.1 0 j := fun j q1 => mIn (by unfold OY at o; omega)
  refine ⟨⟨h.1.ww o, by rw [e 19 (by omega)]; exact h.2.1, ?_⟩, e 19 (by omega), e 20 (by omega)⟩
  unfold VT
  rw [e 23 (by omega), e 22 (by omega), e 21 (by omega)]
  exact h.2.2
/-- what goes on when it is broken already -/
def BS (g : Gg) (K : Mm → Option Mm) : Prop := ∀ N, BR g N → ∃ N2, K N = some N2 ∧ BR g N2 ∧ N2.1 0 19 = N.1 0 19 ∧ N2.1 0 20 = N.1 0 20
theorem BS_end {g : Gg} : BS g (fun N => some N) := fun N h => ⟨N, rfl, h, rfl, rfl⟩
theorem BS_step {g : Gg} {K : Mm → Option Mm} (h : BS g K) : BS g (fun N => bd (f_X12_step N) K) := fun N hN => by
  show ∃ N2, bd (f_X12_step N) K = _ ∧ _
  rw [step_b hN, bd_s]
  exact h N hN
theorem BS_fails {g : Gg} {K : Mm → Option Mm} {c : Int32} (h : BS g K) : BS g (fun N => bd (f_X12_fails N c) K) := fun N hN => by
  show ∃ N2, bd (f_X12_fails N c) K = _ ∧ _
  rw [fails_b hN, bd_s]
  exact h N hN
theorem BS_num {g : Gg} {K : Int32 × Mm → Option Mm} {x y : Int32} (h : ∀ r, BS g (fun N => K (r, N))) : BS g (fun N => bd (f_X12_number N x y) K) := fun N hN => by
  show ∃ N2, bd (f_X12_number N x y) K = _ ∧ _
  rw [number_b hN, bd_s]
  exact h x N hN
theorem BS_w {g : Gg} {K : Mm → Option Mm} {a k : Nat} {v : Mm → Int32} (o : OY a k) (h : BS g K) : BS g (fun N => wr (wI N a k (v N)) K) := fun N hN => by
  obtain ⟨h1, h2, h3⟩ := hN.w o (v N)
  obtain ⟨N2, a1, a2, a3, a4⟩ := h _ h1
  exact ⟨N2, a1, a2, a3.trans h2, a4.trans h3⟩
theorem BS_fur {g : Gg} {K : Int32 × Mm → Option Mm} (h : BS g (fun N => K (0, N))) : BS g (fun N => bd (f_X12_furlongHere N) K) := fun N hN => by
  obtain ⟨v, e⟩ := fur_b hN
  obtain ⟨h1, h2, h3⟩ := hN.w (a := 0) (k := 15) (Or.inr (by decide)) v
  obtain ⟨N2, a1, a2, a3, a4⟩ := h _ h1
  exact ⟨N2, by show bd (f_X12_furlongHere N) K = _; rw [e, bd_s]; exact a1, a2, a3.trans h2, a4.trans h3⟩
theorem BS_name {g : Gg} (hg : OKg g) {K : Int32 × Mm → Option Mm} {lo hi : Nat} (h1 : lo ≤ hi) (h2 : hi ≤ 16) (h : ∀ s, s ≤ hi - lo → BS g (fun N => K (nI s, N))) : BS g (fun N => bd (f_X12_name N (nI lo) (nI hi)) K) := fun N hN => by
  obtain ⟨s, hs, e⟩ := name_b hg hN h1 h2
  obtain ⟨N2, a⟩ := h s hs N hN
  exact ⟨N2, by show bd (f_X12_name N (nI lo) (nI hi)) K = _; rw [e, bd_s]; exact a.1, a.2⟩
theorem BS_if {g : Gg} {A B : Mm → Option Mm} (h : BS g B) : BS g (fun N => if N.1 0 19 = 0 then A N else B N) := fun N hN => by
  show ∃ N2, (if N.1 0 19 = 0 then A N else B N) = _ ∧ _
  rw [if_neg hN.ne.1]
  exact h N hN
theorem BS_82 {g : Gg} : BS g f_X12_readLine_82 := fun N hN => by
  unfold f_X12_readLine_82 f_X12_readLine_102
  rw [if_neg hN.ne.1, step_b hN, bd_s]
  exact ⟨N, rfl, hN, rfl, rfl⟩
def Z6 (r : Pg) : Prop := ∀ k, k < 20 → r (7 * k) = 0 → r (7 * k + 6) = 0
/-- the land that is drafted: class and reference -/
def DR (d : Nat) (X Y : Mm) : Prop := (∃ F, 1 ≤ F ∧ F ≤ 10 ∧ X.1 d 0 = nI F ∧ Y.1 0 12 = nI F) ∧ X.1 d 1 = 3 ∧ (∀ h, h < 12 → X.1 (d + 1) h = Y.1 6 h) ∧ (LwR X (d + 2) (Y.1 7) ∧ ∃ T, 1 ≤ T ∧ T ≤ 99 ∧ Y.1 7 0 = nI T) ∧ (∃ hi sd ss, (hi ≤ 9 ∧ sd < 16 ∧ ss < 1024) ∧ (X.1 1 11 = nI hi ∧ Y.1 0 15 = nI hi) ∧ (X.1 1 9 = nI sd ∧ Y.1 0 13 = nI sd) ∧ (X.1 1 10 = nI ss ∧ Y.1 0 14 = nI ss) ∧ (∃ c, c ≤ 8 ∧ X.1 d 4 = nI c ∧ Y.1 0 11 = nI c ∧ ∀ h, h < c → X.1 (d + 3) h = Y.1 8 (2 * h) ∧ X.1 (d + 4) h = Y.1 8 (2 * h + 1) ∧ ∃ x, x ≤ hi ∧ Y.1 8 (2 * h) = nI x) ∧ Bey (Y.1 5) 0 (hi + 1) ∧ Z6 (Y.1 5)) ∧ ScR X (d + 5) (Y.1 5) 0 ∧ InvR (Y.1 5) 0
/-- a line: read by both, or found at fault by both -/
def LSg (g : Gg) (q0 : Nat) (rc : Option (Int32 × Mm)) (rn : Option Mm) : Prop := (∃ X Y st q M N, rc = some (1, M) ∧ rn = f_X12_step N ∧ AS g X Y st q M N ∧ DR g.2.2.1 X Y ∧ q0 ≤ q) ∨ ∃ M N, rc = some (0, M) ∧ rn = some N ∧ FS g M N
theorem LSg.bad {g : Gg} {q0 : Nat} {M N : Mm} {K : Mm → Option Mm} (F : FS g M N) (h : BS g K) : LSg g q0 (some (0, M)) (K N) := by
  obtain ⟨f1, f2, f3, f4⟩ := F
  obtain ⟨N2, a1, a2, a3, a4⟩ := h N f2
  exact Or.inr ⟨M, N2, rfl, a1, f1, a2, f3.trans a3.symm, f4.trans a4.symm⟩
theorem LSg.ck {g : Gg} {q0 : Nat} {rc : Option (Int32 × Mm)} {rn : Option Mm} (h : LSg g q0 rc rn) : LSg g q0 (bd rc fun p => ck (isB p.1) <| some (p.1, p.2)) rn := by
  rcases h with ⟨X, Y, st, q, M, N, a1, a2⟩ | ⟨M, N, a1, a2⟩
  · exact Or.inl ⟨X, Y, st, q, M, N, by rw [a1, bd_s, ck_t (Or.inr rfl)], a2⟩
  · exact Or.inr ⟨M, N, by rw [a1, bd_s, ck_t (Or.inl rfl)], a2⟩
/-- what the reference still has to write -/
def PW (g : Gg) (Y Y2 : Mm) (P : Mm → Mm) : Prop := (∀ X st q M N, AS g X Y st q M N → AS g X Y2 st q M (P N)) ∧ ∀ N, BR g N → BR g (P N) ∧ (P N).1 0 19 = N.1 0 19 ∧ (P N).1 0 20 = N.1 0 20
theorem PW.id {g : Gg} {Y : Mm} : PW g Y Y (fun N => N) := ⟨fun _ _ _ _ _ h => h, fun _ h => ⟨h, rfl, rfl⟩⟩
theorem PW.w {g : Gg} {Y : Mm} {a k : Nat} (o : OY a k) (v : Int32) : PW g Y (wI Y a k v) (fun N => wI N a k v) := ⟨fun _ _ _ _ _ h => h.wY o v, fun _ h => h.w o v⟩
theorem FS.p {g : Gg} {Y Y2 M N : Mm} {P : Mm → Mm} (h : FS g M N) (p : PW g Y Y2 P) : FS g M (P N) := by
  obtain ⟨f1, f2, f3, f4⟩ := h
  obtain ⟨a1, a2, a3⟩ := p.2 N f2
  exact ⟨f1, a1, f3.trans a2.symm, f4.trans a3.symm⟩
theorem num_sim {g : Gg} {X Y M N : Mm} {st q : Nat} (A : AS g X Y st q M N) {lo hi : Nat} (hl : lo ≤ 999) (hh : hi ≤ 999) : (∃ v, lo ≤ v ∧ v ≤ hi ∧ M.1 1 8 = nI v ∧ N.1 0 24 = nI v ∧ f_X9_isNumber M (nI lo) (nI hi) = some (1, M) ∧ f_X12_looks N (nI lo) (nI hi) = some N) ∨ ∃ M2 N2, f_X9_isNumber M (nI lo) (nI hi) = some (0, M2) ∧ f_X12_looks N (nI lo) (nI hi) = some N2 ∧ FS g M2 N2 := by
  obtain ⟨B2a, B2b, B2c⟩ := A.bad (c := 2) (by decide) (by decide)
  obtain ⟨B3a, B3b, B3c⟩ := A.bad (c := 3) (by decide) (by decide)
  obtain ⟨⟨a1, a3, a5, ⟨a6, a7⟩, a8, a9⟩, u1, u2, u3, kind, val, u4, u5, u6, u7, u8, u9, u10⟩ := A
  unfold f_X9_isNumber f_X9_isNumber_47 f_X9_isNumber_42 f_X12_looks f_X12_looks_20 f_X12_looks_47 f_X9_isNumber_47
  rw [u8, u9, a8, if_pos rfl]
  by_cases k : kind = 2
  · obtain ⟨c1, c2⟩ := u10 k
    rw [if_pos (show nI kind = 2 by rw [k]; rfl), if_pos (show nI kind = 2 by rw [k]; rfl), if_pos rfl, c1, c2, e_isAmong, bd_s, show f_X12_in (nI val).toInt64 (nI lo).toInt64 (nI hi).toInt64 = some (b2 (inR (nI val) (nI lo) (nI hi))) from e_inI _ _ _, bd_s]
    by_cases z : inR (nI val) (nI lo) (nI hi)
    · rw [if_neg (fun q => b2_0.mp q z), if_neg (fun q => b2_0.mp q z), ck_t (Or.inr rfl)]
      have z2 := (nI_leI (by omega) (by omega)).mp z.2
      have z1 := (nI_leI (by omega) (by omega)).mp z.1
      exact Or.inl ⟨val, z1, z2, rfl, rfl, rfl, rfl⟩
    · rw [if_pos (b2_0.mpr z), if_pos (b2_0.mpr z), show f_X9_refuse M 3 (M.1 1 6) = _ from B3a, bd_s, if_pos rfl, ck_t (Or.inl rfl), show f_X12_fails N 3 = _ from B3b, bd_s]
      exact Or.inr ⟨_, _, rfl, rfl, B3c⟩
  · have k2 : ¬ nI kind = 2 := fun z => k ((nI_eq (b := 2) (by omega) (by omega)).mp z)
    rw [if_neg k2, if_neg k2, show f_X9_refuse M 2 (M.1 1 6) = _ from B2a, bd_s, ck_t (Or.inl rfl), show f_X12_fails N 2 = _ from B2b, bd_s, if_neg B2c.2.1.ne.1]
    exact Or.inr ⟨_, _, rfl, rfl, B2c⟩
