-- AT THE LAW'S ENTRY: what the Statement gives, by its places
def tmS (i : Nat) : Term := .string RX9 (sIdx.getD i 0)
def nrF : List Cond := flatC (Cond.and given_1 narrow_1)
def nrP (i : Nat) : Nat := ([48, 60, 68, 79, 92, 104, 262, 287, 116, 130, 145, 162, 179, 199, 220, 241] : List Nat).getD i 0
def nrO (i : Nat) : Nat := ([0, 1, 2, 3, 4, 5, 14, 15, 6, 7, 8, 9, 10, 11, 12, 13] : List Nat).getD i 0
theorem nr_ex_ : ∀ i, i < 16 → nrF[nrP i]? = some (Cond.exactly (tmS i) "java/lang/String") := by decide +kernel
theorem nr_ex : ∀ i, i < 16 → Cond.exactly (tmS i) "java/lang/String" ∈ flatC (Cond.and given_1 narrow_1) := fun i hi => List.mem_of_getElem? (nr_ex_ i hi)
theorem nr_co_ : ∀ i, i < 16 → nrF[nrP i + 1]? = some (Cond.eq (.field (tmS i) "java/lang/String" "coder" "B") (.int 0)) := by decide +kernel
theorem nr_co : ∀ i, i < 16 → Cond.eq (.field (tmS i) "java/lang/String" "coder" "B") (.int 0) ∈ flatC (Cond.and given_1 narrow_1) := fun i hi => List.mem_of_getElem? (nr_co_ i hi)
theorem nr_ar_ : ∀ i, i < 16 → nrF[nrP i + 2]? = some (Cond.arrayOf (.field (tmS i) "java/lang/String" "value" "[B") .byte) := by decide +kernel
theorem nr_ar : ∀ i, i < 16 → Cond.arrayOf (.field (tmS i) "java/lang/String" "value" "[B") .byte ∈ flatC (Cond.and given_1 narrow_1) := fun i hi => List.mem_of_getElem? (nr_ar_ i hi)
theorem nr_le_ : ∀ i, i < 16 → nrF[nrP i + 3]? = some (Cond.eq (.length (.field (tmS i) "java/lang/String" "value" "[B")) (.int (Int32.ofNat (sLen.getD i 0)))) := by decide +kernel
theorem nr_le : ∀ i, i < 16 → Cond.eq (.length (.field (tmS i) "java/lang/String" "value" "[B")) (.int (Int32.ofNat (sLen.getD i 0))) ∈ flatC (Cond.and given_1 narrow_1) := fun i hi => List.mem_of_getElem? (nr_le_ i hi)
theorem nr_el_ : ∀ i, i < 16 → ∀ j, j < sLen.getD i 0 → nrF[nrP i + 4 + j]? = some (Cond.eq (.elem (.field (tmS i) "java/lang/String" "value" "[B") (.int (Int32.ofNat j))) (.int ((sByt.getD i []).getD j 0))) := by decide +kernel
theorem nr_el : ∀ i, i < 16 → ∀ j, j < sLen.getD i 0 → Cond.eq (.elem (.field (tmS i) "java/lang/String" "value" "[B") (.int (Int32.ofNat j))) (.int ((sByt.getD i []).getD j 0)) ∈ flatC (Cond.and given_1 narrow_1) := fun i hi j hj => List.mem_of_getElem? (nr_el_ i hi j hj)
theorem nr_nq_ : ∀ i, i < 16 → ∀ j, j < 16 → nrO i < nrO j → nrF[nrP j + 4 + sLen.getD j 0 + nrO i]? = some (Cond.not (Cond.eq (tmS i) (tmS j))) := by decide +kernel
theorem nr_nq : ∀ i, i < 16 → ∀ j, j < 16 → nrO i < nrO j → Cond.not (Cond.eq (tmS i) (tmS j)) ∈ flatC (Cond.and given_1 narrow_1) := fun i hi j hj h => List.mem_of_getElem? (nr_nq_ i hi j hj h)
theorem nr_or : ∀ i, i < 16 → ∀ j, j < 16 → i ≠ j → nrO i < nrO j ∨ nrO j < nrO i := by decide +kernel
theorem nr_ne : ∀ i, i < 16 → ∀ j, j < 16 → i ≠ j → (Cond.not (Cond.eq (tmS i) (tmS j))) ∈ flatC (Cond.and given_1 narrow_1) ∨ (Cond.not (Cond.eq (tmS j) (tmS i))) ∈ flatC (Cond.and given_1 narrow_1) := fun i hi j hj h => (nr_or i hi j hj h).imp (nr_nq i hi j hj) (nr_nq j hj i hi)
theorem nr_cs : Cond.eq (.static "java/lang/String" "COMPACT_STRINGS" "Z") (.int 1) ∈ flatC (Cond.and given_1 narrow_1) := List.mem_of_getElem? (l := nrF) (i := 4) (by decide +kernel)
theorem nr_si : Cond.isRef (.static "jdk/internal/util/Preconditions" "SIOOBE_FORMATTER" "Ljava/util/function/BiFunction;") ∈ flatC (Cond.and given_1 narrow_1) := List.mem_of_getElem? (l := nrF) (i := 5) (by decide +kernel)
