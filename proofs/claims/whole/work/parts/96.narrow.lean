/-! ===== what the claim says of the start ===== -/
def nwL : List Cond := flatC (Jvm.Cond.and given_1 narrow_1)
def nwV : Term := .static "PartedPension$Verb" "ALL" "[LPartedPension$Verb;"
def vbN : Nat → String := fun k => match k with
  | 0 => "BORN" | 1 => "SERVE" | 2 => "WED" | 3 => "PART" | 4 => "LIVES" | 5 => "CLAIM" | 6 => "LOST" | 7 => "DIES" | 8 => "RETIRE" | 9 => "PER_WORD" | 10 => "NORMAL_WORD" | 11 => "EARLY_WORD" | 12 => "COLA_WORD" | _ => "INTEREST_WORD"
def vbT (k : Nat) : Term := .static "PartedPension$Verb" (vbN k) "LPartedPension$Verb;"
/-- where the condition on a verb begins; its word's entry; where the conditions on the word begin -/
def vbB : Nat → Nat := fun k => [87, 94, 102, 111, 121, 132, 144, 157, 171, 186, 202, 219, 237, 256].getD k 0
def vbE : Nat → Nat := fun k => [131, 137, 139, 141, 143, 146, 149, 152, 155, 158, 161, 164, 167, 170].getD k 0
def vbX : Nat → Nat := fun k => [414, 428, 444, 459, 476, 495, 515, 535, 556, 580, 602, 628, 654, 680].getD k 0
/-- the conditions on an int row behind place i -/
def nfR (i : Nat) (tm : Term) (ty : FieldType) (N : Nat) (row : Nat → Int32) : Prop := nwL[i]? = some (.arrayOf tm ty) ∧ nwL[i + 1]? = some (.eq (.length tm) (.int (Int32.ofNat N))) ∧ ∀ j, j < N → nwL[i + 2 + j]? = some (.eq (.elem tm (.int (Int32.ofNat j))) (.int (row j)))
/-- the conditions on a String constant behind place i -/
def nfS (i : Nat) (own : String) (k : Nat) (l : List Nat) : Prop := nwL[i]? = some (.exactly (.string own k) "java/lang/String") ∧ nwL[i + 1]? = some (.eq (.field (.string own k) "java/lang/String" "coder" "B") (.int 0)) ∧ nfR (i + 2) (.field (.string own k) "java/lang/String" "value" "[B") .byte l.length (fun j => nI (l.getD j 0))
theorem nf0 : nfR 5 (.static "PartedPension" "TERMS_AT_FIRST" "[I") .int 5 tmB := ⟨by decide +kernel, by decide +kernel, by decide +kernel⟩
theorem nf1 : nfR 70 (.static "PartedPension" "SLOT_LEAST" "[I") .int 13 slL := ⟨by decide +kernel, by decide +kernel, by decide +kernel⟩
theorem nf2 : nfR 54 (.static "PartedPension" "SLOT_MOST" "[I") .int 13 slM := ⟨by decide +kernel, by decide +kernel, by decide +kernel⟩
theorem nf3 : nfR 37 (.static "PartedPension$1" "$SwitchMap$PartedPension$Verb" "[I") .int 14 swM := ⟨by decide +kernel, by decide +kernel, by decide +kernel⟩
theorem nf4 : nwL[14]? = some (.arrayOf nwV (.object "PartedPension$Verb")) ∧ nwL[15]? = some (.eq (.length nwV) (.int (Int32.ofNat 14))) ∧ ∀ j, j < 14 → nwL[17 + j]? = some (.eq (.elem nwV (.int (Int32.ofNat j))) (vbT j)) := ⟨by decide +kernel, by decide +kernel, by decide +kernel⟩
theorem nf5 : nfS 286 "PartedPension$Reader" 88 wdSh := ⟨by decide +kernel, by decide +kernel, by decide +kernel, by decide +kernel, by decide +kernel⟩
theorem nf6 : nfS 296 "PartedPension$Reader" 94 wdAp := ⟨by decide +kernel, by decide +kernel, by decide +kernel, by decide +kernel, by decide +kernel⟩
theorem nf7 : ∀ k, k < 14 → nwL[vbB k]? = some (.exactly (vbT k) "PartedPension$Verb") := by decide +kernel
theorem nf8 : ∀ k, k < 14 → nwL[vbB k + 1]? = some (.eq (.field (vbT k) "java/lang/Enum" "ordinal" "I") (.int (nI k))) := by decide +kernel
theorem nf9 : ∀ k, k < 14 → nwL[vbB k + 2]? = some (.eq (.field (vbT k) "PartedPension$Verb" "word" "Ljava/lang/String;") (.string "PartedPension$Verb" (vbE k))) := by decide +kernel
theorem nf10 : ∀ k, k < 14 → nwL[vbB k + 3]? = some (.eq (.field (vbT k) "PartedPension$Verb" "first" "I") (.int (vbS k 0))) := by decide +kernel
theorem nf11 : ∀ k, k < 14 → nwL[vbB k + 4]? = some (.eq (.field (vbT k) "PartedPension$Verb" "second" "I") (.int (vbS k 1))) := by decide +kernel
theorem nf12 : ∀ k, k < 14 → nwL[vbB k + 5]? = some (.eq (.field (vbT k) "PartedPension$Verb" "third" "I") (.int (vbS k 2))) := by decide +kernel
theorem nf13 : ∀ k, k < 14 → nwL[vbB k + 6]? = some (.eq (.field (vbT k) "PartedPension$Verb" "fourth" "I") (.int (vbS k 3))) := by decide +kernel
theorem nf14 : ∀ k, k < 14 → nwL[vbX k]? = some (.exactly (.string "PartedPension$Verb" (vbE k)) "java/lang/String") := by decide +kernel
theorem nf15 : ∀ k, k < 14 → nwL[vbX k + 1]? = some (.eq (.field (.string "PartedPension$Verb" (vbE k)) "java/lang/String" "coder" "B") (.int 0)) := by decide +kernel
theorem nf16 : ∀ k, k < 14 → nwL[vbX k + 2]? = some (.arrayOf (.field (.string "PartedPension$Verb" (vbE k)) "java/lang/String" "value" "[B") .byte) := by decide +kernel
theorem nf17 : ∀ k, k < 14 → nwL[vbX k + 3]? = some (.eq (.length (.field (.string "PartedPension$Verb" (vbE k)) "java/lang/String" "value" "[B")) (.int (Int32.ofNat (vbW k).length))) := by decide +kernel
theorem nf18 : ∀ k, k < 14 → ∀ j, j < (vbW k).length → nwL[vbX k + 4 + j]? = some (.eq (.elem (.field (.string "PartedPension$Verb" (vbE k)) "java/lang/String" "value" "[B") (.int (Int32.ofNat j))) (.int (nI ((vbW k).getD j 0)))) := by decide +kernel
theorem nf19 (k : Nat) (hk : k < 14) : nfS (vbX k) "PartedPension$Verb" (vbE k) (vbW k) := ⟨nf14 k hk, nf15 k hk, nf16 k hk, nf17 k hk, nf18 k hk⟩
theorem nf20 : nwL[31]? = some (.eq (.static "java/lang/String" "COMPACT_STRINGS" "Z") (.int 1)) := by decide +kernel
theorem nf21 : nwL[32]? = some (.isRef (.static "jdk/internal/util/Preconditions" "SIOOBE_FORMATTER" "Ljava/util/function/BiFunction;")) := by decide +kernel
theorem nf22 : nwL[85]? = some (.isRef (.static Bundle.tN "UNASSIGNED_STACK" Bundle.steD)) := by decide +kernel
theorem nf23 : nwL[86]? = some (.isRef (.static Bundle.tN "SUPPRESSED_SENTINEL" Bundle.listD)) := by decide +kernel
theorem nf24 : nwL[306]? = some (.exactly (.string "PartedPension" 118) "java/lang/String") ∧ nwL[324]? = some (.exactly (.string "PartedPension" 138) "java/lang/String") ∧ nwL[356]? = some (.exactly (.string "PartedPension" 143) "java/lang/String") ∧ nwL[378]? = some (.exactly (.string "PartedPension" 178) "java/lang/String") := by decide +kernel
