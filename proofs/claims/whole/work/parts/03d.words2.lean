/-! the words of links and methods, gathered -/
def mSt (k : Nat) : Nat := (mX k).2.2.2.2.2.2.1
def hhK (k : Nat) : List (Nat × Nat × Nat × Nat) := match lk hT k with
  | some L => L.map fun q => (q.1, q.2.1, q.2.2.1, q.2.2.2.1)
  | none => []
/-- what is said of a method of the tables -/
def EM (k : Nat) : Prop := EMc (mN k) (mB k) (mO k) (mL k) (mR k) (mA k) (mSt k) ∧ ((lk hT k = none ∧ Cond.code (mN k) (mB k) (mL k) (mR k) ∈ GW) ∨ ((lk hT k).isSome = true ∧ Cond.codeWith (mN k) (mB k) (mL k) (mR k) (hhK k) ∈ GW)) ∧ 1 ≤ mF k ∧ 30 ≤ mQ k ∧ mO k < 15 ∧ mL k ≤ 17
set_option maxRecDepth 100000 in
theorem emk_0 : EM 0 := by
  unfold EM mN mB mO mL mR mA mSt mF mQ
  rw [mX_0]
  exact ⟨em_0, Or.inl ⟨rfl, ec_0⟩, by decide, by decide, by decide, by decide⟩
set_option maxRecDepth 100000 in
theorem emk_1 : EM 1 := by
  unfold EM mN mB mO mL mR mA mSt mF mQ
  rw [mX_1]
  exact ⟨em_1, Or.inl ⟨rfl, ec_1⟩, by decide, by decide, by decide, by decide⟩
set_option maxRecDepth 100000 in
theorem emk_2 : EM 2 := by
  unfold EM mN mB mO mL mR mA mSt mF mQ
  rw [mX_2]
  exact ⟨em_2, Or.inl ⟨rfl, ec_2⟩, by decide, by decide, by decide, by decide⟩
set_option maxRecDepth 100000 in
theorem emk_3 : EM 3 := by
  unfold EM mN mB mO mL mR mA mSt mF mQ
  rw [mX_3]
  exact ⟨em_3, Or.inl ⟨rfl, ec_3⟩, by decide, by decide, by decide, by decide⟩
set_option maxRecDepth 100000 in
theorem emk_4 : EM 4 := by
  unfold EM mN mB mO mL mR mA mSt mF mQ
  rw [mX_4]
  exact ⟨em_4, Or.inl ⟨rfl, ec_4⟩, by decide, by decide, by decide, by decide⟩
set_option maxRecDepth 100000 in
theorem emk_5 : EM 5 := by
  unfold EM mN mB mO mL mR mA mSt mF mQ
  rw [mX_5]
  exact ⟨em_5, Or.inl ⟨rfl, ec_5⟩, by decide, by decide, by decide, by decide⟩
set_option maxRecDepth 100000 in
theorem emk_6 : EM 6 := by
  unfold EM mN mB mO mL mR mA mSt mF mQ
  rw [mX_6]
  exact ⟨em_6, Or.inl ⟨rfl, ec_6⟩, by decide, by decide, by decide, by decide⟩
set_option maxRecDepth 100000 in
theorem emk_7 : EM 7 := by
  unfold EM mN mB mO mL mR mA mSt mF mQ
  rw [mX_7]
  exact ⟨em_7, Or.inl ⟨rfl, ec_7⟩, by decide, by decide, by decide, by decide⟩
set_option maxRecDepth 100000 in
theorem emk_8 : EM 8 := by
  unfold EM mN mB mO mL mR mA mSt mF mQ
  rw [mX_8]
  exact ⟨em_8, Or.inl ⟨rfl, ec_8⟩, by decide, by decide, by decide, by decide⟩
set_option maxRecDepth 100000 in
theorem emk_9 : EM 9 := by
  unfold EM mN mB mO mL mR mA mSt mF mQ
  rw [mX_9]
  exact ⟨em_9, Or.inl ⟨rfl, ec_9⟩, by decide, by decide, by decide, by decide⟩
set_option maxRecDepth 100000 in
theorem emk_10 : EM 10 := by
  unfold EM mN mB mO mL mR mA mSt mF mQ
  rw [mX_10]
  exact ⟨em_10, Or.inl ⟨rfl, ec_10⟩, by decide, by decide, by decide, by decide⟩
set_option maxRecDepth 100000 in
theorem emk_11 : EM 11 := by
  unfold EM mN mB mO mL mR mA mSt mF mQ
  rw [mX_11]
  exact ⟨em_11, Or.inl ⟨rfl, ec_11⟩, by decide, by decide, by decide, by decide⟩
set_option maxRecDepth 100000 in
theorem emk_12 : EM 12 := by
  unfold EM mN mB mO mL mR mA mSt mF mQ
  rw [mX_12]
  exact ⟨em_12, Or.inl ⟨rfl, ec_12⟩, by decide, by decide, by decide, by decide⟩
set_option maxRecDepth 100000 in
theorem emk_13 : EM 13 := by
  unfold EM mN mB mO mL mR mA mSt mF mQ
  rw [mX_13]
  exact ⟨em_13, Or.inl ⟨rfl, ec_13⟩, by decide, by decide, by decide, by decide⟩
set_option maxRecDepth 100000 in
theorem emk_14 : EM 14 := by
  unfold EM mN mB mO mL mR mA mSt mF mQ
  rw [mX_14]
  exact ⟨em_14, Or.inl ⟨rfl, ec_14⟩, by decide, by decide, by decide, by decide⟩
set_option maxRecDepth 100000 in
theorem emk_15 : EM 15 := by
  unfold EM mN mB mO mL mR mA mSt mF mQ
  rw [mX_15]
  exact ⟨em_15, Or.inl ⟨rfl, ec_15⟩, by decide, by decide, by decide, by decide⟩
set_option maxRecDepth 100000 in
theorem emk_16 : EM 16 := by
  unfold EM mN mB mO mL mR mA mSt mF mQ
  rw [mX_16]
  exact ⟨em_16, Or.inl ⟨rfl, ec_16⟩, by decide, by decide, by decide, by decide⟩
set_option maxRecDepth 100000 in
theorem emk_17 : EM 17 := by
  unfold EM mN mB mO mL mR mA mSt mF mQ
  rw [mX_17]
  exact ⟨em_17, Or.inl ⟨rfl, ec_17⟩, by decide, by decide, by decide, by decide⟩
set_option maxRecDepth 100000 in
theorem emk_18 : EM 18 := by
  unfold EM mN mB mO mL mR mA mSt mF mQ
  rw [mX_18]
  exact ⟨em_18, Or.inl ⟨rfl, ec_18⟩, by decide, by decide, by decide, by decide⟩
set_option maxRecDepth 100000 in
theorem emk_19 : EM 19 := by
  unfold EM mN mB mO mL mR mA mSt mF mQ
  rw [mX_19]
  exact ⟨em_19, Or.inl ⟨rfl, ec_19⟩, by decide, by decide, by decide, by decide⟩
set_option maxRecDepth 100000 in
theorem emk_20 : EM 20 := by
  unfold EM mN mB mO mL mR mA mSt mF mQ
  rw [mX_20]
  exact ⟨em_20, Or.inl ⟨rfl, ec_20⟩, by decide, by decide, by decide, by decide⟩
set_option maxRecDepth 100000 in
theorem emk_21 : EM 21 := by
  unfold EM mN mB mO mL mR mA mSt mF mQ
  rw [mX_21]
  exact ⟨em_21, Or.inl ⟨rfl, ec_21⟩, by decide, by decide, by decide, by decide⟩
set_option maxRecDepth 100000 in
theorem emk_22 : EM 22 := by
  unfold EM mN mB mO mL mR mA mSt mF mQ
  rw [mX_22]
  exact ⟨em_22, Or.inl ⟨rfl, ec_22⟩, by decide, by decide, by decide, by decide⟩
set_option maxRecDepth 100000 in
theorem emk_23 : EM 23 := by
  unfold EM mN mB mO mL mR mA mSt mF mQ
  rw [mX_23]
  exact ⟨em_23, Or.inl ⟨rfl, ec_23⟩, by decide, by decide, by decide, by decide⟩
set_option maxRecDepth 100000 in
theorem emk_24 : EM 24 := by
  unfold EM mN mB mO mL mR mA mSt mF mQ
  rw [mX_24]
  exact ⟨em_24, Or.inl ⟨rfl, ec_24⟩, by decide, by decide, by decide, by decide⟩
set_option maxRecDepth 100000 in
theorem emk_25 : EM 25 := by
  unfold EM mN mB mO mL mR mA mSt mF mQ
  rw [mX_25]
  exact ⟨em_25, Or.inl ⟨rfl, ec_25⟩, by decide, by decide, by decide, by decide⟩
set_option maxRecDepth 100000 in
theorem emk_26 : EM 26 := by
  unfold EM mN mB mO mL mR mA mSt mF mQ
  rw [mX_26]
  exact ⟨em_26, Or.inl ⟨rfl, ec_26⟩, by decide, by decide, by decide, by decide⟩
set_option maxRecDepth 100000 in
theorem emk_27 : EM 27 := by
  unfold EM mN mB mO mL mR mA mSt mF mQ
  rw [mX_27]
  exact ⟨em_27, Or.inl ⟨rfl, ec_27⟩, by decide, by decide, by decide, by decide⟩
set_option maxRecDepth 100000 in
theorem emk_28 : EM 28 := by
  unfold EM mN mB mO mL mR mA mSt mF mQ
  rw [mX_28]
  exact ⟨em_28, Or.inl ⟨rfl, ec_28⟩, by decide, by decide, by decide, by decide⟩
set_option maxRecDepth 100000 in
theorem emk_29 : EM 29 := by
  unfold EM mN mB mO mL mR mA mSt mF mQ
  rw [mX_29]
  exact ⟨em_29, Or.inl ⟨rfl, ec_29⟩, by decide, by decide, by decide, by decide⟩
set_option maxRecDepth 100000 in
theorem emk_30 : EM 30 := by
  unfold EM mN mB mO mL mR mA mSt mF mQ
  rw [mX_30]
  exact ⟨em_30, Or.inl ⟨rfl, ec_30⟩, by decide, by decide, by decide, by decide⟩
set_option maxRecDepth 100000 in
theorem emk_31 : EM 31 := by
  unfold EM mN mB mO mL mR mA mSt mF mQ
  rw [mX_31]
  exact ⟨em_31, Or.inl ⟨rfl, ec_31⟩, by decide, by decide, by decide, by decide⟩
set_option maxRecDepth 100000 in
theorem emk_32 : EM 32 := by
  unfold EM mN mB mO mL mR mA mSt mF mQ
  rw [mX_32]
  exact ⟨em_32, Or.inl ⟨rfl, ec_32⟩, by decide, by decide, by decide, by decide⟩
set_option maxRecDepth 100000 in
theorem emk_33 : EM 33 := by
  unfold EM mN mB mO mL mR mA mSt mF mQ
  rw [mX_33]
  exact ⟨em_33, Or.inl ⟨rfl, ec_33⟩, by decide, by decide, by decide, by decide⟩
set_option maxRecDepth 100000 in
theorem emk_34 : EM 34 := by
  unfold EM mN mB mO mL mR mA mSt mF mQ
  rw [mX_34]
  exact ⟨em_34, Or.inl ⟨rfl, ec_34⟩, by decide, by decide, by decide, by decide⟩
set_option maxRecDepth 100000 in
theorem emk_35 : EM 35 := by
  unfold EM mN mB mO mL mR mA mSt mF mQ
  rw [mX_35]
  exact ⟨em_35, Or.inl ⟨rfl, ec_35⟩, by decide, by decide, by decide, by decide⟩
set_option maxRecDepth 100000 in
theorem emk_36 : EM 36 := by
  unfold EM mN mB mO mL mR mA mSt mF mQ
  rw [mX_36]
  exact ⟨em_36, Or.inl ⟨rfl, ec_36⟩, by decide, by decide, by decide, by decide⟩
set_option maxRecDepth 100000 in
theorem emk_37 : EM 37 := by
  unfold EM mN mB mO mL mR mA mSt mF mQ
  rw [mX_37]
  exact ⟨em_37, Or.inl ⟨rfl, ec_37⟩, by decide, by decide, by decide, by decide⟩
set_option maxRecDepth 100000 in
theorem emk_38 : EM 38 := by
  unfold EM mN mB mO mL mR mA mSt mF mQ
  rw [mX_38]
  exact ⟨em_38, Or.inl ⟨rfl, ec_38⟩, by decide, by decide, by decide, by decide⟩
set_option maxRecDepth 100000 in
theorem emk_39 : EM 39 := by
  unfold EM mN mB mO mL mR mA mSt mF mQ
  rw [mX_39]
  exact ⟨em_39, Or.inl ⟨rfl, ec_39⟩, by decide, by decide, by decide, by decide⟩
set_option maxRecDepth 100000 in
theorem emk_40 : EM 40 := by
  unfold EM mN mB mO mL mR mA mSt mF mQ
  rw [mX_40]
  exact ⟨em_40, Or.inl ⟨rfl, ec_40⟩, by decide, by decide, by decide, by decide⟩
set_option maxRecDepth 100000 in
theorem emk_41 : EM 41 := by
  unfold EM mN mB mO mL mR mA mSt mF mQ
  rw [mX_41]
  exact ⟨em_41, Or.inl ⟨rfl, ec_41⟩, by decide, by decide, by decide, by decide⟩
set_option maxRecDepth 100000 in
theorem emk_42 : EM 42 := by
  unfold EM mN mB mO mL mR mA mSt mF mQ
  rw [mX_42]
  exact ⟨em_42, Or.inl ⟨rfl, ec_42⟩, by decide, by decide, by decide, by decide⟩
set_option maxRecDepth 100000 in
theorem emk_43 : EM 43 := by
  unfold EM mN mB mO mL mR mA mSt mF mQ
  rw [mX_43]
  exact ⟨em_43, Or.inl ⟨rfl, ec_43⟩, by decide, by decide, by decide, by decide⟩
set_option maxRecDepth 100000 in
theorem emk_44 : EM 44 := by
  unfold EM mN mB mO mL mR mA mSt mF mQ
  rw [mX_44]
  exact ⟨em_44, Or.inl ⟨rfl, ec_44⟩, by decide, by decide, by decide, by decide⟩
set_option maxRecDepth 100000 in
theorem emk_45 : EM 45 := by
  unfold EM mN mB mO mL mR mA mSt mF mQ
  rw [mX_45]
  exact ⟨em_45, Or.inl ⟨rfl, ec_45⟩, by decide, by decide, by decide, by decide⟩
set_option maxRecDepth 100000 in
theorem emk_46 : EM 46 := by
  unfold EM mN mB mO mL mR mA mSt mF mQ
  rw [mX_46]
  exact ⟨em_46, Or.inl ⟨rfl, ec_46⟩, by decide, by decide, by decide, by decide⟩
set_option maxRecDepth 100000 in
theorem emk_47 : EM 47 := by
  unfold EM mN mB mO mL mR mA mSt mF mQ
  rw [mX_47]
  exact ⟨em_47, Or.inl ⟨rfl, ec_47⟩, by decide, by decide, by decide, by decide⟩
set_option maxRecDepth 100000 in
theorem emk_48 : EM 48 := by
  unfold EM mN mB mO mL mR mA mSt mF mQ
  rw [mX_48]
  exact ⟨em_48, Or.inl ⟨rfl, ec_48⟩, by decide, by decide, by decide, by decide⟩
set_option maxRecDepth 100000 in
theorem emk_49 : EM 49 := by
  unfold EM mN mB mO mL mR mA mSt mF mQ
  rw [mX_49]
  exact ⟨em_49, Or.inl ⟨rfl, ec_49⟩, by decide, by decide, by decide, by decide⟩
set_option maxRecDepth 100000 in
theorem emk_50 : EM 50 := by
  unfold EM mN mB mO mL mR mA mSt mF mQ
  rw [mX_50]
  exact ⟨em_50, Or.inl ⟨rfl, ec_50⟩, by decide, by decide, by decide, by decide⟩
set_option maxRecDepth 100000 in
theorem emk_51 : EM 51 := by
  unfold EM mN mB mO mL mR mA mSt mF mQ
  rw [mX_51]
  exact ⟨em_51, Or.inl ⟨rfl, ec_51⟩, by decide, by decide, by decide, by decide⟩
set_option maxRecDepth 100000 in
theorem emk_52 : EM 52 := by
  unfold EM mN mB mO mL mR mA mSt mF mQ
  rw [mX_52]
  exact ⟨em_52, Or.inl ⟨rfl, ec_52⟩, by decide, by decide, by decide, by decide⟩
set_option maxRecDepth 100000 in
theorem emk_53 : EM 53 := by
  unfold EM mN mB mO mL mR mA mSt mF mQ
  rw [mX_53]
  exact ⟨em_53, Or.inl ⟨rfl, ec_53⟩, by decide, by decide, by decide, by decide⟩
set_option maxRecDepth 100000 in
theorem emk_54 : EM 54 := by
  unfold EM mN mB mO mL mR mA mSt mF mQ
  rw [mX_54]
  exact ⟨em_54, Or.inl ⟨rfl, ec_54⟩, by decide, by decide, by decide, by decide⟩
set_option maxRecDepth 100000 in
theorem emk_55 : EM 55 := by
  unfold EM mN mB mO mL mR mA mSt mF mQ
  rw [mX_55]
  exact ⟨em_55, Or.inl ⟨rfl, ec_55⟩, by decide, by decide, by decide, by decide⟩
set_option maxRecDepth 100000 in
theorem emk_56 : EM 56 := by
  unfold EM mN mB mO mL mR mA mSt mF mQ
  rw [mX_56]
  exact ⟨em_56, Or.inl ⟨rfl, ec_56⟩, by decide, by decide, by decide, by decide⟩
set_option maxRecDepth 100000 in
theorem emk_57 : EM 57 := by
  unfold EM mN mB mO mL mR mA mSt mF mQ
  rw [mX_57]
  exact ⟨em_57, Or.inl ⟨rfl, ec_57⟩, by decide, by decide, by decide, by decide⟩
set_option maxRecDepth 100000 in
theorem emk_58 : EM 58 := by
  unfold EM mN mB mO mL mR mA mSt mF mQ
  rw [mX_58]
  exact ⟨em_58, Or.inl ⟨rfl, ec_58⟩, by decide, by decide, by decide, by decide⟩
set_option maxRecDepth 100000 in
theorem emk_59 : EM 59 := by
  unfold EM mN mB mO mL mR mA mSt mF mQ
  rw [mX_59]
  exact ⟨em_59, Or.inl ⟨rfl, ec_59⟩, by decide, by decide, by decide, by decide⟩
set_option maxRecDepth 100000 in
theorem emk_60 : EM 60 := by
  unfold EM mN mB mO mL mR mA mSt mF mQ
  rw [mX_60]
  exact ⟨em_60, Or.inl ⟨rfl, ec_60⟩, by decide, by decide, by decide, by decide⟩
set_option maxRecDepth 100000 in
theorem emk_61 : EM 61 := by
  unfold EM mN mB mO mL mR mA mSt mF mQ
  rw [mX_61]
  exact ⟨em_61, Or.inl ⟨rfl, ec_61⟩, by decide, by decide, by decide, by decide⟩
set_option maxRecDepth 100000 in
theorem emk_62 : EM 62 := by
  unfold EM mN mB mO mL mR mA mSt mF mQ
  rw [mX_62]
  exact ⟨em_62, Or.inl ⟨rfl, ec_62⟩, by decide, by decide, by decide, by decide⟩
set_option maxRecDepth 100000 in
theorem emk_63 : EM 63 := by
  unfold EM mN mB mO mL mR mA mSt mF mQ
  rw [mX_63]
  exact ⟨em_63, Or.inl ⟨rfl, ec_63⟩, by decide, by decide, by decide, by decide⟩
set_option maxRecDepth 100000 in
theorem emk_64 : EM 64 := by
  unfold EM mN mB mO mL mR mA mSt mF mQ
  rw [mX_64]
  exact ⟨em_64, Or.inl ⟨rfl, ec_64⟩, by decide, by decide, by decide, by decide⟩
set_option maxRecDepth 100000 in
theorem emk_65 : EM 65 := by
  unfold EM mN mB mO mL mR mA mSt mF mQ
  rw [mX_65]
  exact ⟨em_65, Or.inl ⟨rfl, ec_65⟩, by decide, by decide, by decide, by decide⟩
set_option maxRecDepth 100000 in
theorem emk_66 : EM 66 := by
  unfold EM mN mB mO mL mR mA mSt mF mQ
  rw [mX_66]
  exact ⟨em_66, Or.inl ⟨rfl, ec_66⟩, by decide, by decide, by decide, by decide⟩
set_option maxRecDepth 100000 in
theorem emk_67 : EM 67 := by
  unfold EM mN mB mO mL mR mA mSt mF mQ
  rw [mX_67]
  exact ⟨em_67, Or.inl ⟨rfl, ec_67⟩, by decide, by decide, by decide, by decide⟩
set_option maxRecDepth 100000 in
theorem emk_68 : EM 68 := by
  unfold EM mN mB mO mL mR mA mSt mF mQ
  rw [mX_68]
  exact ⟨em_68, Or.inl ⟨rfl, ec_68⟩, by decide, by decide, by decide, by decide⟩
set_option maxRecDepth 100000 in
theorem emk_69 : EM 69 := by
  unfold EM mN mB mO mL mR mA mSt mF mQ
  rw [mX_69]
  exact ⟨em_69, Or.inl ⟨rfl, ec_69⟩, by decide, by decide, by decide, by decide⟩
set_option maxRecDepth 100000 in
theorem emk_70 : EM 70 := by
  unfold EM mN mB mO mL mR mA mSt mF mQ
  rw [mX_70]
  exact ⟨em_70, Or.inl ⟨rfl, ec_70⟩, by decide, by decide, by decide, by decide⟩
set_option maxRecDepth 100000 in
theorem emk_71 : EM 71 := by
  unfold EM mN mB mO mL mR mA mSt mF mQ
  rw [mX_71]
  exact ⟨em_71, Or.inl ⟨rfl, ec_71⟩, by decide, by decide, by decide, by decide⟩
set_option maxRecDepth 100000 in
theorem emk_72 : EM 72 := by
  unfold EM mN mB mO mL mR mA mSt mF mQ
  rw [mX_72]
  exact ⟨em_72, Or.inl ⟨rfl, ec_72⟩, by decide, by decide, by decide, by decide⟩
set_option maxRecDepth 100000 in
theorem emk_73 : EM 73 := by
  unfold EM mN mB mO mL mR mA mSt mF mQ
  rw [mX_73]
  exact ⟨em_73, Or.inl ⟨rfl, ec_73⟩, by decide, by decide, by decide, by decide⟩
set_option maxRecDepth 100000 in
theorem emk_74 : EM 74 := by
  unfold EM mN mB mO mL mR mA mSt mF mQ
  rw [mX_74]
  exact ⟨em_74, Or.inl ⟨rfl, ec_74⟩, by decide, by decide, by decide, by decide⟩
set_option maxRecDepth 100000 in
theorem emk_75 : EM 75 := by
  unfold EM mN mB mO mL mR mA mSt mF mQ
  rw [mX_75]
  exact ⟨em_75, Or.inl ⟨rfl, ec_75⟩, by decide, by decide, by decide, by decide⟩
set_option maxRecDepth 100000 in
theorem emk_76 : EM 76 := by
  unfold EM mN mB mO mL mR mA mSt mF mQ
  rw [mX_76]
  exact ⟨em_76, Or.inl ⟨rfl, ec_76⟩, by decide, by decide, by decide, by decide⟩
set_option maxRecDepth 100000 in
theorem emk_77 : EM 77 := by
  unfold EM mN mB mO mL mR mA mSt mF mQ
  rw [mX_77]
  exact ⟨em_77, Or.inl ⟨rfl, ec_77⟩, by decide, by decide, by decide, by decide⟩
set_option maxRecDepth 100000 in
theorem emk_78 : EM 78 := by
  unfold EM mN mB mO mL mR mA mSt mF mQ
  rw [mX_78]
  exact ⟨em_78, Or.inl ⟨rfl, ec_78⟩, by decide, by decide, by decide, by decide⟩
set_option maxRecDepth 100000 in
theorem emk_79 : EM 79 := by
  unfold EM mN mB mO mL mR mA mSt mF mQ
  rw [mX_79]
  exact ⟨em_79, Or.inl ⟨rfl, ec_79⟩, by decide, by decide, by decide, by decide⟩
set_option maxRecDepth 100000 in
theorem emk_80 : EM 80 := by
  unfold EM mN mB mO mL mR mA mSt mF mQ
  rw [mX_80]
  exact ⟨em_80, Or.inl ⟨rfl, ec_80⟩, by decide, by decide, by decide, by decide⟩
set_option maxRecDepth 100000 in
theorem emk_81 : EM 81 := by
  unfold EM mN mB mO mL mR mA mSt mF mQ
  rw [mX_81]
  exact ⟨em_81, Or.inl ⟨rfl, ec_81⟩, by decide, by decide, by decide, by decide⟩
set_option maxRecDepth 100000 in
theorem emk_82 : EM 82 := by
  unfold EM mN mB mO mL mR mA mSt mF mQ
  rw [mX_82]
  exact ⟨em_82, Or.inl ⟨rfl, ec_82⟩, by decide, by decide, by decide, by decide⟩
set_option maxRecDepth 100000 in
theorem emk_83 : EM 83 := by
  unfold EM mN mB mO mL mR mA mSt mF mQ
  rw [mX_83]
  exact ⟨em_83, Or.inl ⟨rfl, ec_83⟩, by decide, by decide, by decide, by decide⟩
set_option maxRecDepth 100000 in
theorem emk_84 : EM 84 := by
  unfold EM mN mB mO mL mR mA mSt mF mQ
  rw [mX_84]
  exact ⟨em_84, Or.inl ⟨rfl, ec_84⟩, by decide, by decide, by decide, by decide⟩
set_option maxRecDepth 100000 in
theorem emk_85 : EM 85 := by
  unfold EM mN mB mO mL mR mA mSt mF mQ
  rw [mX_85]
  exact ⟨em_85, Or.inl ⟨rfl, ec_85⟩, by decide, by decide, by decide, by decide⟩
set_option maxRecDepth 100000 in
theorem emk_86 : EM 86 := by
  unfold EM mN mB mO mL mR mA mSt mF mQ
  rw [mX_86]
  exact ⟨em_86, Or.inl ⟨rfl, ec_86⟩, by decide, by decide, by decide, by decide⟩
set_option maxRecDepth 100000 in
theorem emk_87 : EM 87 := by
  unfold EM mN mB mO mL mR mA mSt mF mQ
  rw [mX_87]
  exact ⟨em_87, Or.inl ⟨rfl, ec_87⟩, by decide, by decide, by decide, by decide⟩
set_option maxRecDepth 100000 in
theorem emk_88 : EM 88 := by
  unfold EM mN mB mO mL mR mA mSt mF mQ
  rw [mX_88]
  exact ⟨em_88, Or.inl ⟨rfl, ec_88⟩, by decide, by decide, by decide, by decide⟩
set_option maxRecDepth 100000 in
theorem emk_89 : EM 89 := by
  unfold EM mN mB mO mL mR mA mSt mF mQ
  rw [mX_89]
  exact ⟨em_89, Or.inl ⟨rfl, ec_89⟩, by decide, by decide, by decide, by decide⟩
set_option maxRecDepth 100000 in
theorem emk_90 : EM 90 := by
  unfold EM mN mB mO mL mR mA mSt mF mQ
  rw [mX_90]
  exact ⟨em_90, Or.inl ⟨rfl, ec_90⟩, by decide, by decide, by decide, by decide⟩
set_option maxRecDepth 100000 in
theorem emk_91 : EM 91 := by
  unfold EM mN mB mO mL mR mA mSt mF mQ
  rw [mX_91]
  exact ⟨em_91, Or.inl ⟨rfl, ec_91⟩, by decide, by decide, by decide, by decide⟩
set_option maxRecDepth 100000 in
theorem emk_92 : EM 92 := by
  unfold EM mN mB mO mL mR mA mSt mF mQ
  rw [mX_92]
  exact ⟨em_92, Or.inl ⟨rfl, ec_92⟩, by decide, by decide, by decide, by decide⟩
set_option maxRecDepth 100000 in
theorem emk_93 : EM 93 := by
  unfold EM mN mB mO mL mR mA mSt mF mQ
  rw [mX_93]
  exact ⟨em_93, Or.inl ⟨rfl, ec_93⟩, by decide, by decide, by decide, by decide⟩
set_option maxRecDepth 100000 in
theorem emk_94 : EM 94 := by
  unfold EM mN mB mO mL mR mA mSt mF mQ
  rw [mX_94]
  exact ⟨em_94, Or.inl ⟨rfl, ec_94⟩, by decide, by decide, by decide, by decide⟩
set_option maxRecDepth 100000 in
theorem emk_95 : EM 95 := by
  unfold EM mN mB mO mL mR mA mSt mF mQ
  rw [mX_95]
  exact ⟨em_95, Or.inl ⟨rfl, ec_95⟩, by decide, by decide, by decide, by decide⟩
set_option maxRecDepth 100000 in
theorem emk_96 : EM 96 := by
  unfold EM mN mB mO mL mR mA mSt mF mQ
  rw [mX_96]
  exact ⟨em_96, Or.inl ⟨rfl, ec_96⟩, by decide, by decide, by decide, by decide⟩
set_option maxRecDepth 100000 in
theorem emk_97 : EM 97 := by
  unfold EM mN mB mO mL mR mA mSt mF mQ
  rw [mX_97]
  exact ⟨em_97, Or.inl ⟨rfl, ec_97⟩, by decide, by decide, by decide, by decide⟩
set_option maxRecDepth 100000 in
theorem emk_98 : EM 98 := by
  unfold EM mN mB mO mL mR mA mSt mF mQ
  rw [mX_98]
  exact ⟨em_98, Or.inl ⟨rfl, ec_98⟩, by decide, by decide, by decide, by decide⟩
set_option maxRecDepth 100000 in
theorem emk_99 : EM 99 := by
  unfold EM mN mB mO mL mR mA mSt mF mQ
  rw [mX_99]
  exact ⟨em_99, Or.inl ⟨rfl, ec_99⟩, by decide, by decide, by decide, by decide⟩
set_option maxRecDepth 100000 in
theorem emk_100 : EM 100 := by
  unfold EM mN mB mO mL mR mA mSt mF mQ
  rw [mX_100]
  exact ⟨em_100, Or.inl ⟨rfl, ec_100⟩, by decide, by decide, by decide, by decide⟩
set_option maxRecDepth 100000 in
theorem emk_101 : EM 101 := by
  unfold EM mN mB mO mL mR mA mSt mF mQ
  rw [mX_101]
  exact ⟨em_101, Or.inl ⟨rfl, ec_101⟩, by decide, by decide, by decide, by decide⟩
set_option maxRecDepth 100000 in
theorem emk_102 : EM 102 := by
  unfold EM mN mB mO mL mR mA mSt mF mQ
  rw [mX_102]
  exact ⟨em_102, Or.inl ⟨rfl, ec_102⟩, by decide, by decide, by decide, by decide⟩
set_option maxRecDepth 100000 in
theorem emk_103 : EM 103 := by
  unfold EM mN mB mO mL mR mA mSt mF mQ
  rw [mX_103]
  exact ⟨em_103, Or.inl ⟨rfl, ec_103⟩, by decide, by decide, by decide, by decide⟩
set_option maxRecDepth 100000 in
theorem emk_104 : EM 104 := by
  unfold EM mN mB mO mL mR mA mSt mF mQ
  rw [mX_104]
  exact ⟨em_104, Or.inl ⟨rfl, ec_104⟩, by decide, by decide, by decide, by decide⟩
set_option maxRecDepth 100000 in
theorem emk_105 : EM 105 := by
  unfold EM mN mB mO mL mR mA mSt mF mQ
  rw [mX_105]
  exact ⟨em_105, Or.inl ⟨rfl, ec_105⟩, by decide, by decide, by decide, by decide⟩
set_option maxRecDepth 100000 in
theorem emk_106 : EM 106 := by
  unfold EM mN mB mO mL mR mA mSt mF mQ
  rw [mX_106]
  exact ⟨em_106, Or.inl ⟨rfl, ec_106⟩, by decide, by decide, by decide, by decide⟩
set_option maxRecDepth 100000 in
theorem emk_107 : EM 107 := by
  unfold EM mN mB mO mL mR mA mSt mF mQ
  rw [mX_107]
  exact ⟨em_107, Or.inl ⟨rfl, ec_107⟩, by decide, by decide, by decide, by decide⟩
set_option maxRecDepth 100000 in
theorem emk_108 : EM 108 := by
  unfold EM mN mB mO mL mR mA mSt mF mQ
  rw [mX_108]
  exact ⟨em_108, Or.inl ⟨rfl, ec_108⟩, by decide, by decide, by decide, by decide⟩
set_option maxRecDepth 100000 in
theorem emk_109 : EM 109 := by
  unfold EM mN mB mO mL mR mA mSt mF mQ
  rw [mX_109]
  exact ⟨em_109, Or.inl ⟨rfl, ec_109⟩, by decide, by decide, by decide, by decide⟩
set_option maxRecDepth 100000 in
theorem emk_110 : EM 110 := by
  unfold EM mN mB mO mL mR mA mSt mF mQ
  rw [mX_110]
  exact ⟨em_110, Or.inl ⟨rfl, ec_110⟩, by decide, by decide, by decide, by decide⟩
set_option maxRecDepth 100000 in
theorem emk_111 : EM 111 := by
  unfold EM mN mB mO mL mR mA mSt mF mQ
  rw [mX_111]
  exact ⟨em_111, Or.inl ⟨rfl, ec_111⟩, by decide, by decide, by decide, by decide⟩
set_option maxRecDepth 100000 in
theorem emk_112 : EM 112 := by
  unfold EM mN mB mO mL mR mA mSt mF mQ
  rw [mX_112]
  exact ⟨em_112, Or.inl ⟨rfl, ec_112⟩, by decide, by decide, by decide, by decide⟩
set_option maxRecDepth 100000 in
theorem emk_113 : EM 113 := by
  unfold EM mN mB mO mL mR mA mSt mF mQ
  rw [mX_113]
  exact ⟨em_113, Or.inl ⟨rfl, ec_113⟩, by decide, by decide, by decide, by decide⟩
set_option maxRecDepth 100000 in
theorem emk_114 : EM 114 := by
  unfold EM mN mB mO mL mR mA mSt mF mQ
  rw [mX_114]
  exact ⟨em_114, Or.inl ⟨rfl, ec_114⟩, by decide, by decide, by decide, by decide⟩
set_option maxRecDepth 100000 in
theorem emk_115 : EM 115 := by
  unfold EM mN mB mO mL mR mA mSt mF mQ
  rw [mX_115]
  exact ⟨em_115, Or.inl ⟨rfl, ec_115⟩, by decide, by decide, by decide, by decide⟩
set_option maxRecDepth 100000 in
theorem emk_116 : EM 116 := by
  unfold EM mN mB mO mL mR mA mSt mF mQ
  rw [mX_116]
  exact ⟨em_116, Or.inl ⟨rfl, ec_116⟩, by decide, by decide, by decide, by decide⟩
set_option maxRecDepth 100000 in
theorem emk_117 : EM 117 := by
  unfold EM mN mB mO mL mR mA mSt mF mQ
  rw [mX_117]
  exact ⟨em_117, Or.inl ⟨rfl, ec_117⟩, by decide, by decide, by decide, by decide⟩
set_option maxRecDepth 100000 in
theorem emk_118 : EM 118 := by
  unfold EM mN mB mO mL mR mA mSt mF mQ
  rw [mX_118]
  exact ⟨em_118, Or.inl ⟨rfl, ec_118⟩, by decide, by decide, by decide, by decide⟩
set_option maxRecDepth 100000 in
theorem emk_119 : EM 119 := by
  unfold EM mN mB mO mL mR mA mSt mF mQ
  rw [mX_119]
  exact ⟨em_119, Or.inl ⟨rfl, ec_119⟩, by decide, by decide, by decide, by decide⟩
set_option maxRecDepth 100000 in
theorem emk_120 : EM 120 := by
  unfold EM mN mB mO mL mR mA mSt mF mQ
  rw [mX_120]
  exact ⟨em_120, Or.inl ⟨rfl, ec_120⟩, by decide, by decide, by decide, by decide⟩
set_option maxRecDepth 100000 in
theorem emk_121 : EM 121 := by
  unfold EM mN mB mO mL mR mA mSt mF mQ
  rw [mX_121]
  exact ⟨em_121, Or.inl ⟨rfl, ec_121⟩, by decide, by decide, by decide, by decide⟩
set_option maxRecDepth 100000 in
theorem emk_122 : EM 122 := by
  unfold EM mN mB mO mL mR mA mSt mF mQ
  rw [mX_122]
  exact ⟨em_122, Or.inl ⟨rfl, ec_122⟩, by decide, by decide, by decide, by decide⟩
set_option maxRecDepth 100000 in
theorem emk_123 : EM 123 := by
  unfold EM mN mB mO mL mR mA mSt mF mQ
  rw [mX_123]
  exact ⟨em_123, Or.inl ⟨rfl, ec_123⟩, by decide, by decide, by decide, by decide⟩
set_option maxRecDepth 100000 in
theorem emk_124 : EM 124 := by
  unfold EM mN mB mO mL mR mA mSt mF mQ
  rw [mX_124]
  exact ⟨em_124, Or.inl ⟨rfl, ec_124⟩, by decide, by decide, by decide, by decide⟩
set_option maxRecDepth 100000 in
theorem emk_125 : EM 125 := by
  unfold EM mN mB mO mL mR mA mSt mF mQ
  rw [mX_125]
  exact ⟨em_125, Or.inl ⟨rfl, ec_125⟩, by decide, by decide, by decide, by decide⟩
set_option maxRecDepth 100000 in
theorem emk_126 : EM 126 := by
  unfold EM mN mB mO mL mR mA mSt mF mQ
  rw [mX_126]
  exact ⟨em_126, Or.inl ⟨rfl, ec_126⟩, by decide, by decide, by decide, by decide⟩
set_option maxRecDepth 100000 in
theorem emk_127 : EM 127 := by
  unfold EM mN mB mO mL mR mA mSt mF mQ
  rw [mX_127]
  exact ⟨em_127, Or.inl ⟨rfl, ec_127⟩, by decide, by decide, by decide, by decide⟩
set_option maxRecDepth 100000 in
theorem emk_128 : EM 128 := by
  unfold EM mN mB mO mL mR mA mSt mF mQ
  rw [mX_128]
  exact ⟨em_128, Or.inl ⟨rfl, ec_128⟩, by decide, by decide, by decide, by decide⟩
set_option maxRecDepth 100000 in
theorem emk_129 : EM 129 := by
  unfold EM mN mB mO mL mR mA mSt mF mQ
  rw [mX_129]
  exact ⟨em_129, Or.inl ⟨rfl, ec_129⟩, by decide, by decide, by decide, by decide⟩
set_option maxRecDepth 100000 in
theorem emk_130 : EM 130 := by
  unfold EM mN mB mO mL mR mA mSt mF mQ
  rw [mX_130]
  exact ⟨em_130, Or.inl ⟨rfl, ec_130⟩, by decide, by decide, by decide, by decide⟩
set_option maxRecDepth 100000 in
theorem emk_131 : EM 131 := by
  unfold EM mN mB mO mL mR mA mSt mF mQ
  rw [mX_131]
  exact ⟨em_131, Or.inl ⟨rfl, ec_131⟩, by decide, by decide, by decide, by decide⟩
set_option maxRecDepth 100000 in
theorem emk_132 : EM 132 := by
  unfold EM mN mB mO mL mR mA mSt mF mQ
  rw [mX_132]
  exact ⟨em_132, Or.inl ⟨rfl, ec_132⟩, by decide, by decide, by decide, by decide⟩
set_option maxRecDepth 100000 in
theorem emk_133 : EM 133 := by
  unfold EM mN mB mO mL mR mA mSt mF mQ
  rw [mX_133]
  exact ⟨em_133, Or.inl ⟨rfl, ec_133⟩, by decide, by decide, by decide, by decide⟩
set_option maxRecDepth 100000 in
theorem emk_134 : EM 134 := by
  unfold EM mN mB mO mL mR mA mSt mF mQ
  rw [mX_134]
  exact ⟨em_134, Or.inl ⟨rfl, ec_134⟩, by decide, by decide, by decide, by decide⟩
set_option maxRecDepth 100000 in
theorem emk_135 : EM 135 := by
  unfold EM mN mB mO mL mR mA mSt mF mQ
  rw [mX_135]
  exact ⟨em_135, Or.inl ⟨rfl, ec_135⟩, by decide, by decide, by decide, by decide⟩
set_option maxRecDepth 100000 in
theorem emk_136 : EM 136 := by
  unfold EM mN mB mO mL mR mA mSt mF mQ
  rw [mX_136]
  exact ⟨em_136, Or.inl ⟨rfl, ec_136⟩, by decide, by decide, by decide, by decide⟩
set_option maxRecDepth 100000 in
theorem emk_137 : EM 137 := by
  unfold EM mN mB mO mL mR mA mSt mF mQ
  rw [mX_137]
  exact ⟨em_137, Or.inl ⟨rfl, ec_137⟩, by decide, by decide, by decide, by decide⟩
set_option maxRecDepth 100000 in
theorem emk_138 : EM 138 := by
  unfold EM mN mB mO mL mR mA mSt mF mQ
  rw [mX_138]
  exact ⟨em_138, Or.inl ⟨rfl, ec_138⟩, by decide, by decide, by decide, by decide⟩
set_option maxRecDepth 100000 in
theorem emk_139 : EM 139 := by
  unfold EM mN mB mO mL mR mA mSt mF mQ
  rw [mX_139]
  exact ⟨em_139, Or.inl ⟨rfl, ec_139⟩, by decide, by decide, by decide, by decide⟩
set_option maxRecDepth 100000 in
theorem emk_140 : EM 140 := by
  unfold EM mN mB mO mL mR mA mSt mF mQ
  rw [mX_140]
  exact ⟨em_140, Or.inl ⟨rfl, ec_140⟩, by decide, by decide, by decide, by decide⟩
set_option maxRecDepth 100000 in
theorem emk_141 : EM 141 := by
  unfold EM mN mB mO mL mR mA mSt mF mQ
  rw [mX_141]
  exact ⟨em_141, Or.inl ⟨rfl, ec_141⟩, by decide, by decide, by decide, by decide⟩
set_option maxRecDepth 100000 in
theorem emk_142 : EM 142 := by
  unfold EM mN mB mO mL mR mA mSt mF mQ
  rw [mX_142]
  exact ⟨em_142, Or.inl ⟨rfl, ec_142⟩, by decide, by decide, by decide, by decide⟩
set_option maxRecDepth 100000 in
theorem emk_143 : EM 143 := by
  unfold EM mN mB mO mL mR mA mSt mF mQ
  rw [mX_143]
  exact ⟨em_143, Or.inl ⟨rfl, ec_143⟩, by decide, by decide, by decide, by decide⟩
set_option maxRecDepth 100000 in
theorem emk_144 : EM 144 := by
  unfold EM mN mB mO mL mR mA mSt mF mQ
  rw [mX_144]
  exact ⟨em_144, Or.inl ⟨rfl, ec_144⟩, by decide, by decide, by decide, by decide⟩
set_option maxRecDepth 100000 in
theorem emk_145 : EM 145 := by
  unfold EM mN mB mO mL mR mA mSt mF mQ
  rw [mX_145]
  exact ⟨em_145, Or.inl ⟨rfl, ec_145⟩, by decide, by decide, by decide, by decide⟩
set_option maxRecDepth 100000 in
theorem emk_146 : EM 146 := by
  unfold EM mN mB mO mL mR mA mSt mF mQ
  rw [mX_146]
  exact ⟨em_146, Or.inl ⟨rfl, ec_146⟩, by decide, by decide, by decide, by decide⟩
set_option maxRecDepth 100000 in
theorem emk_147 : EM 147 := by
  unfold EM mN mB mO mL mR mA mSt mF mQ
  rw [mX_147]
  exact ⟨em_147, Or.inl ⟨rfl, ec_147⟩, by decide, by decide, by decide, by decide⟩
set_option maxRecDepth 100000 in
theorem emk_148 : EM 148 := by
  unfold EM mN mB mO mL mR mA mSt mF mQ
  rw [mX_148]
  exact ⟨em_148, Or.inl ⟨rfl, ec_148⟩, by decide, by decide, by decide, by decide⟩
set_option maxRecDepth 100000 in
theorem emk_149 : EM 149 := by
  unfold EM mN mB mO mL mR mA mSt mF mQ
  rw [mX_149]
  exact ⟨em_149, Or.inl ⟨rfl, ec_149⟩, by decide, by decide, by decide, by decide⟩
set_option maxRecDepth 100000 in
theorem emk_150 : EM 150 := by
  unfold EM mN mB mO mL mR mA mSt mF mQ
  rw [mX_150]
  exact ⟨em_150, Or.inl ⟨rfl, ec_150⟩, by decide, by decide, by decide, by decide⟩
set_option maxRecDepth 100000 in
theorem emk_151 : EM 151 := by
  unfold EM mN mB mO mL mR mA mSt mF mQ
  rw [mX_151]
  exact ⟨em_151, Or.inl ⟨rfl, ec_151⟩, by decide, by decide, by decide, by decide⟩
set_option maxRecDepth 100000 in
theorem emk_152 : EM 152 := by
  unfold EM mN mB mO mL mR mA mSt mF mQ
  rw [mX_152]
  exact ⟨em_152, Or.inl ⟨rfl, ec_152⟩, by decide, by decide, by decide, by decide⟩
set_option maxRecDepth 100000 in
theorem emk_153 : EM 153 := by
  unfold EM mN mB mO mL mR mA mSt mF mQ
  rw [mX_153]
  exact ⟨em_153, Or.inl ⟨rfl, ec_153⟩, by decide, by decide, by decide, by decide⟩
set_option maxRecDepth 100000 in
theorem emk_154 : EM 154 := by
  unfold EM mN mB mO mL mR mA mSt mF mQ
  rw [mX_154]
  exact ⟨em_154, Or.inl ⟨rfl, ec_154⟩, by decide, by decide, by decide, by decide⟩
set_option maxRecDepth 100000 in
theorem emk_155 : EM 155 := by
  unfold EM mN mB mO mL mR mA mSt mF mQ
  rw [mX_155]
  exact ⟨em_155, Or.inl ⟨rfl, ec_155⟩, by decide, by decide, by decide, by decide⟩
set_option maxRecDepth 100000 in
theorem emk_156 : EM 156 := by
  unfold EM mN mB mO mL mR mA mSt mF mQ
  rw [mX_156]
  exact ⟨em_156, Or.inl ⟨rfl, ec_156⟩, by decide, by decide, by decide, by decide⟩
set_option maxRecDepth 100000 in
theorem emk_157 : EM 157 := by
  unfold EM mN mB mO mL mR mA mSt mF mQ
  rw [mX_157]
  exact ⟨em_157, Or.inl ⟨rfl, ec_157⟩, by decide, by decide, by decide, by decide⟩
set_option maxRecDepth 100000 in
theorem emk_158 : EM 158 := by
  unfold EM mN mB mO mL mR mA mSt mF mQ
  rw [mX_158]
  exact ⟨em_158, Or.inl ⟨rfl, ec_158⟩, by decide, by decide, by decide, by decide⟩
set_option maxRecDepth 100000 in
theorem emk_159 : EM 159 := by
  unfold EM mN mB mO mL mR mA mSt mF mQ
  rw [mX_159]
  exact ⟨em_159, Or.inl ⟨rfl, ec_159⟩, by decide, by decide, by decide, by decide⟩
set_option maxRecDepth 100000 in
theorem emk_160 : EM 160 := by
  unfold EM mN mB mO mL mR mA mSt mF mQ
  rw [mX_160]
  exact ⟨em_160, Or.inl ⟨rfl, ec_160⟩, by decide, by decide, by decide, by decide⟩
set_option maxRecDepth 100000 in
theorem emk_161 : EM 161 := by
  unfold EM mN mB mO mL mR mA mSt mF mQ
  rw [mX_161]
  exact ⟨em_161, Or.inl ⟨rfl, ec_161⟩, by decide, by decide, by decide, by decide⟩
set_option maxRecDepth 100000 in
theorem emk_162 : EM 162 := by
  unfold EM mN mB mO mL mR mA mSt mF mQ
  rw [mX_162]
  exact ⟨em_162, Or.inl ⟨rfl, ec_162⟩, by decide, by decide, by decide, by decide⟩
set_option maxRecDepth 100000 in
theorem emk_163 : EM 163 := by
  unfold EM mN mB mO mL mR mA mSt mF mQ
  rw [mX_163]
  exact ⟨em_163, Or.inl ⟨rfl, ec_163⟩, by decide, by decide, by decide, by decide⟩
set_option maxRecDepth 100000 in
theorem emk_164 : EM 164 := by
  unfold EM mN mB mO mL mR mA mSt mF mQ
  rw [mX_164]
  exact ⟨em_164, Or.inl ⟨rfl, ec_164⟩, by decide, by decide, by decide, by decide⟩
set_option maxRecDepth 100000 in
theorem emk_165 : EM 165 := by
  unfold EM mN mB mO mL mR mA mSt mF mQ
  rw [mX_165]
  exact ⟨em_165, Or.inl ⟨rfl, ec_165⟩, by decide, by decide, by decide, by decide⟩
set_option maxRecDepth 100000 in
theorem emk_166 : EM 166 := by
  unfold EM mN mB mO mL mR mA mSt mF mQ
  rw [mX_166]
  exact ⟨em_166, Or.inl ⟨rfl, ec_166⟩, by decide, by decide, by decide, by decide⟩
set_option maxRecDepth 100000 in
theorem emk_167 : EM 167 := by
  unfold EM mN mB mO mL mR mA mSt mF mQ
  rw [mX_167]
  exact ⟨em_167, Or.inl ⟨rfl, ec_167⟩, by decide, by decide, by decide, by decide⟩
set_option maxRecDepth 100000 in
theorem emk_168 : EM 168 := by
  unfold EM mN mB mO mL mR mA mSt mF mQ
  rw [mX_168]
  exact ⟨em_168, Or.inl ⟨rfl, ec_168⟩, by decide, by decide, by decide, by decide⟩
set_option maxRecDepth 100000 in
theorem emk_169 : EM 169 := by
  unfold EM mN mB mO mL mR mA mSt mF mQ
  rw [mX_169]
  exact ⟨em_169, Or.inl ⟨rfl, ec_169⟩, by decide, by decide, by decide, by decide⟩
set_option maxRecDepth 100000 in
theorem emk_170 : EM 170 := by
  unfold EM mN mB mO mL mR mA mSt mF mQ
  rw [mX_170]
  exact ⟨em_170, Or.inl ⟨rfl, ec_170⟩, by decide, by decide, by decide, by decide⟩
set_option maxRecDepth 100000 in
theorem emk_171 : EM 171 := by
  unfold EM mN mB mO mL mR mA mSt mF mQ
  rw [mX_171]
  exact ⟨em_171, Or.inl ⟨rfl, ec_171⟩, by decide, by decide, by decide, by decide⟩
set_option maxRecDepth 100000 in
theorem emk_172 : EM 172 := by
  unfold EM mN mB mO mL mR mA mSt mF mQ
  rw [mX_172]
  exact ⟨em_172, Or.inl ⟨rfl, ec_172⟩, by decide, by decide, by decide, by decide⟩
set_option maxRecDepth 100000 in
theorem emk_173 : EM 173 := by
  unfold EM mN mB mO mL mR mA mSt mF mQ
  rw [mX_173]
  exact ⟨em_173, Or.inl ⟨rfl, ec_173⟩, by decide, by decide, by decide, by decide⟩
set_option maxRecDepth 100000 in
theorem emk_174 : EM 174 := by
  unfold EM mN mB mO mL mR mA mSt mF mQ
  rw [mX_174]
  exact ⟨em_174, Or.inl ⟨rfl, ec_174⟩, by decide, by decide, by decide, by decide⟩
set_option maxRecDepth 100000 in
theorem emk_175 : EM 175 := by
  unfold EM mN mB mO mL mR mA mSt mF mQ
  rw [mX_175]
  exact ⟨em_175, Or.inl ⟨rfl, ec_175⟩, by decide, by decide, by decide, by decide⟩
set_option maxRecDepth 100000 in
theorem emk_176 : EM 176 := by
  unfold EM mN mB mO mL mR mA mSt mF mQ
  rw [mX_176]
  exact ⟨em_176, Or.inl ⟨rfl, ec_176⟩, by decide, by decide, by decide, by decide⟩
set_option maxRecDepth 100000 in
theorem emk_177 : EM 177 := by
  unfold EM mN mB mO mL mR mA mSt mF mQ
  rw [mX_177]
  exact ⟨em_177, Or.inl ⟨rfl, ec_177⟩, by decide, by decide, by decide, by decide⟩
set_option maxRecDepth 100000 in
theorem emk_178 : EM 178 := by
  unfold EM mN mB mO mL mR mA mSt mF mQ
  rw [mX_178]
  exact ⟨em_178, Or.inl ⟨rfl, ec_178⟩, by decide, by decide, by decide, by decide⟩
set_option maxRecDepth 100000 in
theorem emk_179 : EM 179 := by
  unfold EM mN mB mO mL mR mA mSt mF mQ
  rw [mX_179]
  exact ⟨em_179, Or.inl ⟨rfl, ec_179⟩, by decide, by decide, by decide, by decide⟩
set_option maxRecDepth 100000 in
theorem emk_180 : EM 180 := by
  unfold EM mN mB mO mL mR mA mSt mF mQ
  rw [mX_180]
  exact ⟨em_180, Or.inl ⟨rfl, ec_180⟩, by decide, by decide, by decide, by decide⟩
set_option maxRecDepth 100000 in
theorem emk_181 : EM 181 := by
  unfold EM mN mB mO mL mR mA mSt mF mQ
  rw [mX_181]
  exact ⟨em_181, Or.inl ⟨rfl, ec_181⟩, by decide, by decide, by decide, by decide⟩
set_option maxRecDepth 100000 in
theorem emk_182 : EM 182 := by
  unfold EM mN mB mO mL mR mA mSt mF mQ
  rw [mX_182]
  exact ⟨em_182, Or.inl ⟨rfl, ec_182⟩, by decide, by decide, by decide, by decide⟩
set_option maxRecDepth 100000 in
theorem emk_183 : EM 183 := by
  unfold EM mN mB mO mL mR mA mSt mF mQ
  rw [mX_183]
  exact ⟨em_183, Or.inl ⟨rfl, ec_183⟩, by decide, by decide, by decide, by decide⟩
set_option maxRecDepth 100000 in
theorem emk_184 : EM 184 := by
  unfold EM mN mB mO mL mR mA mSt mF mQ
  rw [mX_184]
  exact ⟨em_184, Or.inl ⟨rfl, ec_184⟩, by decide, by decide, by decide, by decide⟩
set_option maxRecDepth 100000 in
theorem emk_185 : EM 185 := by
  unfold EM mN mB mO mL mR mA mSt mF mQ
  rw [mX_185]
  exact ⟨em_185, Or.inl ⟨rfl, ec_185⟩, by decide, by decide, by decide, by decide⟩
set_option maxRecDepth 100000 in
theorem emk_186 : EM 186 := by
  unfold EM mN mB mO mL mR mA mSt mF mQ
  rw [mX_186]
  exact ⟨em_186, Or.inl ⟨rfl, ec_186⟩, by decide, by decide, by decide, by decide⟩
set_option maxRecDepth 100000 in
theorem emk_187 : EM 187 := by
  unfold EM mN mB mO mL mR mA mSt mF mQ
  rw [mX_187]
  exact ⟨em_187, Or.inl ⟨rfl, ec_187⟩, by decide, by decide, by decide, by decide⟩
set_option maxRecDepth 100000 in
theorem emk_188 : EM 188 := by
  unfold EM mN mB mO mL mR mA mSt mF mQ
  rw [mX_188]
  exact ⟨em_188, Or.inl ⟨rfl, ec_188⟩, by decide, by decide, by decide, by decide⟩
set_option maxRecDepth 100000 in
theorem emk_189 : EM 189 := by
  unfold EM mN mB mO mL mR mA mSt mF mQ
  rw [mX_189]
  exact ⟨em_189, Or.inl ⟨rfl, ec_189⟩, by decide, by decide, by decide, by decide⟩
set_option maxRecDepth 100000 in
theorem emk_190 : EM 190 := by
  unfold EM mN mB mO mL mR mA mSt mF mQ
  rw [mX_190]
  exact ⟨em_190, Or.inl ⟨rfl, ec_190⟩, by decide, by decide, by decide, by decide⟩
set_option maxRecDepth 100000 in
theorem emk_191 : EM 191 := by
  unfold EM mN mB mO mL mR mA mSt mF mQ
  rw [mX_191]
  exact ⟨em_191, Or.inl ⟨rfl, ec_191⟩, by decide, by decide, by decide, by decide⟩
set_option maxRecDepth 100000 in
theorem emk_192 : EM 192 := by
  unfold EM mN mB mO mL mR mA mSt mF mQ
  rw [mX_192]
  exact ⟨em_192, Or.inl ⟨rfl, ec_192⟩, by decide, by decide, by decide, by decide⟩
set_option maxRecDepth 100000 in
theorem emk_193 : EM 193 := by
  unfold EM mN mB mO mL mR mA mSt mF mQ
  rw [mX_193]
  exact ⟨em_193, Or.inl ⟨rfl, ec_193⟩, by decide, by decide, by decide, by decide⟩
set_option maxRecDepth 100000 in
theorem emk_194 : EM 194 := by
  unfold EM mN mB mO mL mR mA mSt mF mQ
  rw [mX_194]
  exact ⟨em_194, Or.inl ⟨rfl, ec_194⟩, by decide, by decide, by decide, by decide⟩
set_option maxRecDepth 100000 in
theorem emk_195 : EM 195 := by
  unfold EM mN mB mO mL mR mA mSt mF mQ
  rw [mX_195]
  exact ⟨em_195, Or.inl ⟨rfl, ec_195⟩, by decide, by decide, by decide, by decide⟩
set_option maxRecDepth 100000 in
theorem emk_196 : EM 196 := by
  unfold EM mN mB mO mL mR mA mSt mF mQ
  rw [mX_196]
  exact ⟨em_196, Or.inl ⟨rfl, ec_196⟩, by decide, by decide, by decide, by decide⟩
set_option maxRecDepth 100000 in
theorem emk_197 : EM 197 := by
  unfold EM mN mB mO mL mR mA mSt mF mQ
  rw [mX_197]
  exact ⟨em_197, Or.inl ⟨rfl, ec_197⟩, by decide, by decide, by decide, by decide⟩
set_option maxRecDepth 100000 in
theorem emk_198 : EM 198 := by
  unfold EM mN mB mO mL mR mA mSt mF mQ
  rw [mX_198]
  exact ⟨em_198, Or.inl ⟨rfl, ec_198⟩, by decide, by decide, by decide, by decide⟩
set_option maxRecDepth 100000 in
theorem emk_199 : EM 199 := by
  unfold EM mN mB mO mL mR mA mSt mF mQ
  rw [mX_199]
  exact ⟨em_199, Or.inl ⟨rfl, ec_199⟩, by decide, by decide, by decide, by decide⟩
set_option maxRecDepth 100000 in
theorem emk_200 : EM 200 := by
  unfold EM mN mB mO mL mR mA mSt mF mQ
  rw [mX_200]
  exact ⟨em_200, Or.inl ⟨rfl, ec_200⟩, by decide, by decide, by decide, by decide⟩
set_option maxRecDepth 100000 in
theorem emk_201 : EM 201 := by
  unfold EM mN mB mO mL mR mA mSt mF mQ
  rw [mX_201]
  exact ⟨em_201, Or.inl ⟨rfl, ec_201⟩, by decide, by decide, by decide, by decide⟩
set_option maxRecDepth 100000 in
theorem emk_202 : EM 202 := by
  unfold EM mN mB mO mL mR mA mSt mF mQ
  rw [mX_202]
  exact ⟨em_202, Or.inl ⟨rfl, ec_202⟩, by decide, by decide, by decide, by decide⟩
set_option maxRecDepth 100000 in
theorem emk_203 : EM 203 := by
  unfold EM mN mB mO mL mR mA mSt mF mQ
  rw [mX_203]
  exact ⟨em_203, Or.inl ⟨rfl, ec_203⟩, by decide, by decide, by decide, by decide⟩
set_option maxRecDepth 100000 in
theorem emk_204 : EM 204 := by
  unfold EM mN mB mO mL mR mA mSt mF mQ
  rw [mX_204]
  exact ⟨em_204, Or.inl ⟨rfl, ec_204⟩, by decide, by decide, by decide, by decide⟩
set_option maxRecDepth 100000 in
theorem emk_205 : EM 205 := by
  unfold EM mN mB mO mL mR mA mSt mF mQ
  rw [mX_205]
  exact ⟨em_205, Or.inl ⟨rfl, ec_205⟩, by decide, by decide, by decide, by decide⟩
set_option maxRecDepth 100000 in
theorem emk_206 : EM 206 := by
  unfold EM mN mB mO mL mR mA mSt mF mQ
  rw [mX_206]
  exact ⟨em_206, Or.inl ⟨rfl, ec_206⟩, by decide, by decide, by decide, by decide⟩
set_option maxRecDepth 100000 in
theorem emk_207 : EM 207 := by
  unfold EM mN mB mO mL mR mA mSt mF mQ
  rw [mX_207]
  exact ⟨em_207, Or.inl ⟨rfl, ec_207⟩, by decide, by decide, by decide, by decide⟩
set_option maxRecDepth 100000 in
theorem emk_208 : EM 208 := by
  unfold EM mN mB mO mL mR mA mSt mF mQ
  rw [mX_208]
  exact ⟨em_208, Or.inl ⟨rfl, ec_208⟩, by decide, by decide, by decide, by decide⟩
set_option maxRecDepth 100000 in
theorem emk_209 : EM 209 := by
  unfold EM mN mB mO mL mR mA mSt mF mQ
  rw [mX_209]
  exact ⟨em_209, Or.inl ⟨rfl, ec_209⟩, by decide, by decide, by decide, by decide⟩
set_option maxRecDepth 100000 in
theorem emk_210 : EM 210 := by
  unfold EM mN mB mO mL mR mA mSt mF mQ
  rw [mX_210]
  exact ⟨em_210, Or.inl ⟨rfl, ec_210⟩, by decide, by decide, by decide, by decide⟩
set_option maxRecDepth 100000 in
theorem emk_211 : EM 211 := by
  unfold EM mN mB mO mL mR mA mSt mF mQ
  rw [mX_211]
  exact ⟨em_211, Or.inl ⟨rfl, ec_211⟩, by decide, by decide, by decide, by decide⟩
set_option maxRecDepth 100000 in
theorem emk_212 : EM 212 := by
  unfold EM mN mB mO mL mR mA mSt mF mQ
  rw [mX_212]
  exact ⟨em_212, Or.inl ⟨rfl, ec_212⟩, by decide, by decide, by decide, by decide⟩
set_option maxRecDepth 100000 in
theorem emk_213 : EM 213 := by
  unfold EM mN mB mO mL mR mA mSt mF mQ
  rw [mX_213]
  exact ⟨em_213, Or.inl ⟨rfl, ec_213⟩, by decide, by decide, by decide, by decide⟩
set_option maxRecDepth 100000 in
theorem emk_214 : EM 214 := by
  unfold EM mN mB mO mL mR mA mSt mF mQ
  rw [mX_214]
  exact ⟨em_214, Or.inl ⟨rfl, ec_214⟩, by decide, by decide, by decide, by decide⟩
set_option maxRecDepth 100000 in
theorem emk_215 : EM 215 := by
  unfold EM mN mB mO mL mR mA mSt mF mQ
  rw [mX_215]
  exact ⟨em_215, Or.inl ⟨rfl, ec_215⟩, by decide, by decide, by decide, by decide⟩
set_option maxRecDepth 100000 in
theorem emk_216 : EM 216 := by
  unfold EM mN mB mO mL mR mA mSt mF mQ
  rw [mX_216]
  exact ⟨em_216, Or.inl ⟨rfl, ec_216⟩, by decide, by decide, by decide, by decide⟩
set_option maxRecDepth 100000 in
theorem emk_217 : EM 217 := by
  unfold EM mN mB mO mL mR mA mSt mF mQ
  rw [mX_217]
  exact ⟨em_217, Or.inl ⟨rfl, ec_217⟩, by decide, by decide, by decide, by decide⟩
set_option maxRecDepth 100000 in
theorem emk_218 : EM 218 := by
  unfold EM mN mB mO mL mR mA mSt mF mQ
  rw [mX_218]
  exact ⟨em_218, Or.inl ⟨rfl, ec_218⟩, by decide, by decide, by decide, by decide⟩
set_option maxRecDepth 100000 in
theorem emk_219 : EM 219 := by
  unfold EM mN mB mO mL mR mA mSt mF mQ
  rw [mX_219]
  exact ⟨em_219, Or.inl ⟨rfl, ec_219⟩, by decide, by decide, by decide, by decide⟩
set_option maxRecDepth 100000 in
theorem emk_220 : EM 220 := by
  unfold EM mN mB mO mL mR mA mSt mF mQ
  rw [mX_220]
  exact ⟨em_220, Or.inl ⟨rfl, ec_220⟩, by decide, by decide, by decide, by decide⟩
set_option maxRecDepth 100000 in
theorem emk_221 : EM 221 := by
  unfold EM mN mB mO mL mR mA mSt mF mQ
  rw [mX_221]
  exact ⟨em_221, Or.inl ⟨rfl, ec_221⟩, by decide, by decide, by decide, by decide⟩
set_option maxRecDepth 100000 in
theorem emk_222 : EM 222 := by
  unfold EM mN mB mO mL mR mA mSt mF mQ
  rw [mX_222]
  exact ⟨em_222, Or.inl ⟨rfl, ec_222⟩, by decide, by decide, by decide, by decide⟩
set_option maxRecDepth 100000 in
theorem emk_223 : EM 223 := by
  unfold EM mN mB mO mL mR mA mSt mF mQ
  rw [mX_223]
  exact ⟨em_223, Or.inl ⟨rfl, ec_223⟩, by decide, by decide, by decide, by decide⟩
set_option maxRecDepth 100000 in
theorem emk_224 : EM 224 := by
  unfold EM mN mB mO mL mR mA mSt mF mQ
  rw [mX_224]
  exact ⟨em_224, Or.inl ⟨rfl, ec_224⟩, by decide, by decide, by decide, by decide⟩
set_option maxRecDepth 100000 in
theorem emk_225 : EM 225 := by
  unfold EM mN mB mO mL mR mA mSt mF mQ
  rw [mX_225]
  exact ⟨em_225, Or.inl ⟨rfl, ec_225⟩, by decide, by decide, by decide, by decide⟩
set_option maxRecDepth 100000 in
theorem emk_226 : EM 226 := by
  unfold EM mN mB mO mL mR mA mSt mF mQ
  rw [mX_226]
  exact ⟨em_226, Or.inl ⟨rfl, ec_226⟩, by decide, by decide, by decide, by decide⟩
set_option maxRecDepth 100000 in
theorem emk_227 : EM 227 := by
  unfold EM mN mB mO mL mR mA mSt mF mQ
  rw [mX_227]
  exact ⟨em_227, Or.inl ⟨rfl, ec_227⟩, by decide, by decide, by decide, by decide⟩
set_option maxRecDepth 100000 in
theorem emk_228 : EM 228 := by
  unfold EM mN mB mO mL mR mA mSt mF mQ
  rw [mX_228]
  exact ⟨em_228, Or.inl ⟨rfl, ec_228⟩, by decide, by decide, by decide, by decide⟩
set_option maxRecDepth 100000 in
theorem emk_229 : EM 229 := by
  unfold EM mN mB mO mL mR mA mSt mF mQ
  rw [mX_229]
  exact ⟨em_229, Or.inl ⟨rfl, ec_229⟩, by decide, by decide, by decide, by decide⟩
set_option maxRecDepth 100000 in
theorem emk_230 : EM 230 := by
  unfold EM mN mB mO mL mR mA mSt mF mQ
  rw [mX_230]
  exact ⟨em_230, Or.inl ⟨rfl, ec_230⟩, by decide, by decide, by decide, by decide⟩
set_option maxRecDepth 100000 in
theorem emk_231 : EM 231 := by
  unfold EM mN mB mO mL mR mA mSt mF mQ
  rw [mX_231]
  exact ⟨em_231, Or.inl ⟨rfl, ec_231⟩, by decide, by decide, by decide, by decide⟩
set_option maxRecDepth 100000 in
theorem emk_232 : EM 232 := by
  unfold EM mN mB mO mL mR mA mSt mF mQ
  rw [mX_232]
  exact ⟨em_232, Or.inl ⟨rfl, ec_232⟩, by decide, by decide, by decide, by decide⟩
set_option maxRecDepth 100000 in
theorem emk_233 : EM 233 := by
  unfold EM mN mB mO mL mR mA mSt mF mQ
  rw [mX_233]
  exact ⟨em_233, Or.inl ⟨rfl, ec_233⟩, by decide, by decide, by decide, by decide⟩
set_option maxRecDepth 100000 in
theorem emk_234 : EM 234 := by
  unfold EM mN mB mO mL mR mA mSt mF mQ
  rw [mX_234]
  exact ⟨em_234, Or.inl ⟨rfl, ec_234⟩, by decide, by decide, by decide, by decide⟩
set_option maxRecDepth 100000 in
theorem emk_235 : EM 235 := by
  unfold EM mN mB mO mL mR mA mSt mF mQ
  rw [mX_235]
  exact ⟨em_235, Or.inl ⟨rfl, ec_235⟩, by decide, by decide, by decide, by decide⟩
set_option maxRecDepth 100000 in
theorem emk_236 : EM 236 := by
  unfold EM mN mB mO mL mR mA mSt mF mQ
  rw [mX_236]
  exact ⟨em_236, Or.inl ⟨rfl, ec_236⟩, by decide, by decide, by decide, by decide⟩
set_option maxRecDepth 100000 in
theorem emk_237 : EM 237 := by
  unfold EM mN mB mO mL mR mA mSt mF mQ
  rw [mX_237]
  exact ⟨em_237, Or.inl ⟨rfl, ec_237⟩, by decide, by decide, by decide, by decide⟩
set_option maxRecDepth 100000 in
theorem emk_238 : EM 238 := by
  unfold EM mN mB mO mL mR mA mSt mF mQ
  rw [mX_238]
  exact ⟨em_238, Or.inl ⟨rfl, ec_238⟩, by decide, by decide, by decide, by decide⟩
set_option maxRecDepth 100000 in
theorem emk_239 : EM 239 := by
  unfold EM mN mB mO mL mR mA mSt mF mQ
  rw [mX_239]
  exact ⟨em_239, Or.inl ⟨rfl, ec_239⟩, by decide, by decide, by decide, by decide⟩
set_option maxRecDepth 100000 in
theorem emk_240 : EM 240 := by
  unfold EM mN mB mO mL mR mA mSt mF mQ
  rw [mX_240]
  exact ⟨em_240, Or.inl ⟨rfl, ec_240⟩, by decide, by decide, by decide, by decide⟩
set_option maxRecDepth 100000 in
theorem emk_241 : EM 241 := by
  unfold EM mN mB mO mL mR mA mSt mF mQ
  rw [mX_241]
  exact ⟨em_241, Or.inl ⟨rfl, ec_241⟩, by decide, by decide, by decide, by decide⟩
set_option maxRecDepth 100000 in
theorem emk_242 : EM 242 := by
  unfold EM mN mB mO mL mR mA mSt mF mQ
  rw [mX_242]
  exact ⟨em_242, Or.inl ⟨rfl, ec_242⟩, by decide, by decide, by decide, by decide⟩
set_option maxRecDepth 100000 in
theorem emk_243 : EM 243 := by
  unfold EM mN mB mO mL mR mA mSt mF mQ
  rw [mX_243]
  exact ⟨em_243, Or.inl ⟨rfl, ec_243⟩, by decide, by decide, by decide, by decide⟩
set_option maxRecDepth 100000 in
theorem emk_244 : EM 244 := by
  unfold EM mN mB mO mL mR mA mSt mF mQ
  rw [mX_244]
  exact ⟨em_244, Or.inl ⟨rfl, ec_244⟩, by decide, by decide, by decide, by decide⟩
set_option maxRecDepth 100000 in
theorem emk_245 : EM 245 := by
  unfold EM mN mB mO mL mR mA mSt mF mQ
  rw [mX_245]
  exact ⟨em_245, Or.inl ⟨rfl, ec_245⟩, by decide, by decide, by decide, by decide⟩
set_option maxRecDepth 100000 in
theorem emk_246 : EM 246 := by
  unfold EM mN mB mO mL mR mA mSt mF mQ
  rw [mX_246]
  exact ⟨em_246, Or.inl ⟨rfl, ec_246⟩, by decide, by decide, by decide, by decide⟩
set_option maxRecDepth 100000 in
theorem emk_247 : EM 247 := by
  unfold EM mN mB mO mL mR mA mSt mF mQ
  rw [mX_247]
  exact ⟨em_247, Or.inl ⟨rfl, ec_247⟩, by decide, by decide, by decide, by decide⟩
set_option maxRecDepth 100000 in
theorem emk_248 : EM 248 := by
  unfold EM mN mB mO mL mR mA mSt mF mQ
  rw [mX_248]
  exact ⟨em_248, Or.inl ⟨rfl, ec_248⟩, by decide, by decide, by decide, by decide⟩
set_option maxRecDepth 100000 in
theorem emk_249 : EM 249 := by
  unfold EM mN mB mO mL mR mA mSt mF mQ
  rw [mX_249]
  exact ⟨em_249, Or.inl ⟨rfl, ec_249⟩, by decide, by decide, by decide, by decide⟩
set_option maxRecDepth 100000 in
theorem emk_250 : EM 250 := by
  unfold EM mN mB mO mL mR mA mSt mF mQ
  rw [mX_250]
  exact ⟨em_250, Or.inl ⟨rfl, ec_250⟩, by decide, by decide, by decide, by decide⟩
set_option maxRecDepth 100000 in
theorem emk_251 : EM 251 := by
  unfold EM mN mB mO mL mR mA mSt mF mQ
  rw [mX_251]
  exact ⟨em_251, Or.inl ⟨rfl, ec_251⟩, by decide, by decide, by decide, by decide⟩
set_option maxRecDepth 100000 in
theorem emk_252 : EM 252 := by
  unfold EM mN mB mO mL mR mA mSt mF mQ
  rw [mX_252]
  exact ⟨em_252, Or.inl ⟨rfl, ec_252⟩, by decide, by decide, by decide, by decide⟩
set_option maxRecDepth 100000 in
theorem emk_253 : EM 253 := by
  unfold EM mN mB mO mL mR mA mSt mF mQ
  rw [mX_253]
  exact ⟨em_253, Or.inl ⟨rfl, ec_253⟩, by decide, by decide, by decide, by decide⟩
set_option maxRecDepth 100000 in
theorem emk_254 : EM 254 := by
  unfold EM mN mB mO mL mR mA mSt mF mQ
  rw [mX_254]
  exact ⟨em_254, Or.inl ⟨rfl, ec_254⟩, by decide, by decide, by decide, by decide⟩
set_option maxRecDepth 100000 in
theorem emk_255 : EM 255 := by
  unfold EM mN mB mO mL mR mA mSt mF mQ
  rw [mX_255]
  exact ⟨em_255, Or.inl ⟨rfl, ec_255⟩, by decide, by decide, by decide, by decide⟩
set_option maxRecDepth 100000 in
theorem emk_256 : EM 256 := by
  unfold EM mN mB mO mL mR mA mSt mF mQ
  rw [mX_256]
  exact ⟨em_256, Or.inl ⟨rfl, ec_256⟩, by decide, by decide, by decide, by decide⟩
set_option maxRecDepth 100000 in
theorem emk_257 : EM 257 := by
  unfold EM mN mB mO mL mR mA mSt mF mQ
  rw [mX_257]
  exact ⟨em_257, Or.inl ⟨rfl, ec_257⟩, by decide, by decide, by decide, by decide⟩
set_option maxRecDepth 100000 in
theorem emk_258 : EM 258 := by
  unfold EM mN mB mO mL mR mA mSt mF mQ
  rw [mX_258]
  exact ⟨em_258, Or.inl ⟨rfl, ec_258⟩, by decide, by decide, by decide, by decide⟩
set_option maxRecDepth 100000 in
theorem emk_259 : EM 259 := by
  unfold EM mN mB mO mL mR mA mSt mF mQ
  rw [mX_259]
  exact ⟨em_259, Or.inl ⟨rfl, ec_259⟩, by decide, by decide, by decide, by decide⟩
set_option maxRecDepth 100000 in
theorem emk_260 : EM 260 := by
  unfold EM mN mB mO mL mR mA mSt mF mQ
  rw [mX_260]
  exact ⟨em_260, Or.inl ⟨rfl, ec_260⟩, by decide, by decide, by decide, by decide⟩
set_option maxRecDepth 100000 in
theorem emk_261 : EM 261 := by
  unfold EM mN mB mO mL mR mA mSt mF mQ
  rw [mX_261]
  exact ⟨em_261, Or.inl ⟨rfl, ec_261⟩, by decide, by decide, by decide, by decide⟩
set_option maxRecDepth 100000 in
theorem emk_262 : EM 262 := by
  unfold EM mN mB mO mL mR mA mSt mF mQ
  rw [mX_262]
  exact ⟨em_262, Or.inl ⟨rfl, ec_262⟩, by decide, by decide, by decide, by decide⟩
set_option maxRecDepth 100000 in
theorem emk_263 : EM 263 := by
  unfold EM mN mB mO mL mR mA mSt mF mQ
  rw [mX_263]
  exact ⟨em_263, Or.inl ⟨rfl, ec_263⟩, by decide, by decide, by decide, by decide⟩
set_option maxRecDepth 100000 in
theorem emk_264 : EM 264 := by
  unfold EM mN mB mO mL mR mA mSt mF mQ
  rw [mX_264]
  exact ⟨em_264, Or.inl ⟨rfl, ec_264⟩, by decide, by decide, by decide, by decide⟩
set_option maxRecDepth 100000 in
theorem emk_265 : EM 265 := by
  unfold EM mN mB mO mL mR mA mSt mF mQ
  rw [mX_265]
  exact ⟨em_265, Or.inl ⟨rfl, ec_265⟩, by decide, by decide, by decide, by decide⟩
set_option maxRecDepth 100000 in
theorem emk_266 : EM 266 := by
  unfold EM mN mB mO mL mR mA mSt mF mQ
  rw [mX_266]
  exact ⟨em_266, Or.inl ⟨rfl, ec_266⟩, by decide, by decide, by decide, by decide⟩
set_option maxRecDepth 100000 in
theorem emk_267 : EM 267 := by
  unfold EM mN mB mO mL mR mA mSt mF mQ
  rw [mX_267]
  exact ⟨em_267, Or.inl ⟨rfl, ec_267⟩, by decide, by decide, by decide, by decide⟩
set_option maxRecDepth 100000 in
theorem emk_268 : EM 268 := by
  unfold EM mN mB mO mL mR mA mSt mF mQ
  rw [mX_268]
  exact ⟨em_268, Or.inl ⟨rfl, ec_268⟩, by decide, by decide, by decide, by decide⟩
set_option maxRecDepth 100000 in
theorem emk_269 : EM 269 := by
  unfold EM mN mB mO mL mR mA mSt mF mQ
  rw [mX_269]
  exact ⟨em_269, Or.inl ⟨rfl, ec_269⟩, by decide, by decide, by decide, by decide⟩
set_option maxRecDepth 100000 in
theorem emk_270 : EM 270 := by
  unfold EM mN mB mO mL mR mA mSt mF mQ
  rw [mX_270]
  exact ⟨em_270, Or.inl ⟨rfl, ec_270⟩, by decide, by decide, by decide, by decide⟩
set_option maxRecDepth 100000 in
theorem emk_271 : EM 271 := by
  unfold EM mN mB mO mL mR mA mSt mF mQ
  rw [mX_271]
  exact ⟨em_271, Or.inl ⟨rfl, ec_271⟩, by decide, by decide, by decide, by decide⟩
set_option maxRecDepth 100000 in
theorem emk_272 : EM 272 := by
  unfold EM mN mB mO mL mR mA mSt mF mQ
  rw [mX_272]
  exact ⟨em_272, Or.inl ⟨rfl, ec_272⟩, by decide, by decide, by decide, by decide⟩
set_option maxRecDepth 100000 in
theorem emk_273 : EM 273 := by
  unfold EM mN mB mO mL mR mA mSt mF mQ
  rw [mX_273]
  exact ⟨em_273, Or.inl ⟨rfl, ec_273⟩, by decide, by decide, by decide, by decide⟩
set_option maxRecDepth 100000 in
theorem emk_274 : EM 274 := by
  unfold EM mN mB mO mL mR mA mSt mF mQ
  rw [mX_274]
  exact ⟨em_274, Or.inl ⟨rfl, ec_274⟩, by decide, by decide, by decide, by decide⟩
set_option maxRecDepth 100000 in
theorem emk_275 : EM 275 := by
  unfold EM mN mB mO mL mR mA mSt mF mQ
  rw [mX_275]
  exact ⟨em_275, Or.inl ⟨rfl, ec_275⟩, by decide, by decide, by decide, by decide⟩
set_option maxRecDepth 100000 in
theorem emk_276 : EM 276 := by
  unfold EM mN mB mO mL mR mA mSt mF mQ
  rw [mX_276]
  exact ⟨em_276, Or.inl ⟨rfl, ec_276⟩, by decide, by decide, by decide, by decide⟩
set_option maxRecDepth 100000 in
theorem emk_277 : EM 277 := by
  unfold EM mN mB mO mL mR mA mSt mF mQ
  rw [mX_277]
  exact ⟨em_277, Or.inl ⟨rfl, ec_277⟩, by decide, by decide, by decide, by decide⟩
set_option maxRecDepth 100000 in
theorem emk_278 : EM 278 := by
  unfold EM mN mB mO mL mR mA mSt mF mQ
  rw [mX_278]
  exact ⟨em_278, Or.inl ⟨rfl, ec_278⟩, by decide, by decide, by decide, by decide⟩
set_option maxRecDepth 100000 in
theorem emk_279 : EM 279 := by
  unfold EM mN mB mO mL mR mA mSt mF mQ
  rw [mX_279]
  exact ⟨em_279, Or.inl ⟨rfl, ec_279⟩, by decide, by decide, by decide, by decide⟩
set_option maxRecDepth 100000 in
theorem emk_280 : EM 280 := by
  unfold EM mN mB mO mL mR mA mSt mF mQ
  rw [mX_280]
  exact ⟨em_280, Or.inl ⟨rfl, ec_280⟩, by decide, by decide, by decide, by decide⟩
set_option maxRecDepth 100000 in
theorem emk_281 : EM 281 := by
  unfold EM mN mB mO mL mR mA mSt mF mQ
  rw [mX_281]
  exact ⟨em_281, Or.inl ⟨rfl, ec_281⟩, by decide, by decide, by decide, by decide⟩
set_option maxRecDepth 100000 in
theorem emk_282 : EM 282 := by
  unfold EM mN mB mO mL mR mA mSt mF mQ
  rw [mX_282]
  exact ⟨em_282, Or.inl ⟨rfl, ec_282⟩, by decide, by decide, by decide, by decide⟩
set_option maxRecDepth 100000 in
theorem emk_283 : EM 283 := by
  unfold EM mN mB mO mL mR mA mSt mF mQ
  rw [mX_283]
  exact ⟨em_283, Or.inl ⟨rfl, ec_283⟩, by decide, by decide, by decide, by decide⟩
set_option maxRecDepth 100000 in
theorem emk_284 : EM 284 := by
  unfold EM mN mB mO mL mR mA mSt mF mQ
  rw [mX_284]
  exact ⟨em_284, Or.inl ⟨rfl, ec_284⟩, by decide, by decide, by decide, by decide⟩
set_option maxRecDepth 100000 in
theorem emk_285 : EM 285 := by
  unfold EM mN mB mO mL mR mA mSt mF mQ
  rw [mX_285]
  exact ⟨em_285, Or.inl ⟨rfl, ec_285⟩, by decide, by decide, by decide, by decide⟩
set_option maxRecDepth 100000 in
theorem emk_286 : EM 286 := by
  unfold EM mN mB mO mL mR mA mSt mF mQ
  rw [mX_286]
  exact ⟨em_286, Or.inl ⟨rfl, ec_286⟩, by decide, by decide, by decide, by decide⟩
set_option maxRecDepth 100000 in
theorem emk_287 : EM 287 := by
  unfold EM mN mB mO mL mR mA mSt mF mQ
  rw [mX_287]
  exact ⟨em_287, Or.inl ⟨rfl, ec_287⟩, by decide, by decide, by decide, by decide⟩
set_option maxRecDepth 100000 in
theorem emk_288 : EM 288 := by
  unfold EM mN mB mO mL mR mA mSt mF mQ
  rw [mX_288]
  exact ⟨em_288, Or.inl ⟨rfl, ec_288⟩, by decide, by decide, by decide, by decide⟩
set_option maxRecDepth 100000 in
theorem emk_289 : EM 289 := by
  unfold EM mN mB mO mL mR mA mSt mF mQ
  rw [mX_289]
  exact ⟨em_289, Or.inl ⟨rfl, ec_289⟩, by decide, by decide, by decide, by decide⟩
set_option maxRecDepth 100000 in
theorem emk_290 : EM 290 := by
  unfold EM mN mB mO mL mR mA mSt mF mQ
  rw [mX_290]
  exact ⟨em_290, Or.inl ⟨rfl, ec_290⟩, by decide, by decide, by decide, by decide⟩
set_option maxRecDepth 100000 in
theorem emk_291 : EM 291 := by
  unfold EM mN mB mO mL mR mA mSt mF mQ
  rw [mX_291]
  exact ⟨em_291, Or.inl ⟨rfl, ec_291⟩, by decide, by decide, by decide, by decide⟩
set_option maxRecDepth 100000 in
theorem emk_292 : EM 292 := by
  unfold EM mN mB mO mL mR mA mSt mF mQ
  rw [mX_292]
  exact ⟨em_292, Or.inl ⟨rfl, ec_292⟩, by decide, by decide, by decide, by decide⟩
set_option maxRecDepth 100000 in
theorem emk_293 : EM 293 := by
  unfold EM mN mB mO mL mR mA mSt mF mQ
  rw [mX_293]
  exact ⟨em_293, Or.inl ⟨rfl, ec_293⟩, by decide, by decide, by decide, by decide⟩
set_option maxRecDepth 100000 in
theorem emk_294 : EM 294 := by
  unfold EM mN mB mO mL mR mA mSt mF mQ
  rw [mX_294]
  exact ⟨em_294, Or.inl ⟨rfl, ec_294⟩, by decide, by decide, by decide, by decide⟩
set_option maxRecDepth 100000 in
theorem emk_295 : EM 295 := by
  unfold EM mN mB mO mL mR mA mSt mF mQ
  rw [mX_295]
  exact ⟨em_295, Or.inl ⟨rfl, ec_295⟩, by decide, by decide, by decide, by decide⟩
set_option maxRecDepth 100000 in
theorem emk_296 : EM 296 := by
  unfold EM mN mB mO mL mR mA mSt mF mQ
  rw [mX_296]
  exact ⟨em_296, Or.inl ⟨rfl, ec_296⟩, by decide, by decide, by decide, by decide⟩
set_option maxRecDepth 100000 in
theorem emk_297 : EM 297 := by
  unfold EM mN mB mO mL mR mA mSt mF mQ
  rw [mX_297]
  exact ⟨em_297, Or.inl ⟨rfl, ec_297⟩, by decide, by decide, by decide, by decide⟩
set_option maxRecDepth 100000 in
theorem emk_298 : EM 298 := by
  unfold EM mN mB mO mL mR mA mSt mF mQ
  rw [mX_298]
  exact ⟨em_298, Or.inl ⟨rfl, ec_298⟩, by decide, by decide, by decide, by decide⟩
set_option maxRecDepth 100000 in
theorem emk_299 : EM 299 := by
  unfold EM mN mB mO mL mR mA mSt mF mQ
  rw [mX_299]
  exact ⟨em_299, Or.inl ⟨rfl, ec_299⟩, by decide, by decide, by decide, by decide⟩
set_option maxRecDepth 100000 in
theorem emk_300 : EM 300 := by
  unfold EM mN mB mO mL mR mA mSt mF mQ
  rw [mX_300]
  exact ⟨em_300, Or.inl ⟨rfl, ec_300⟩, by decide, by decide, by decide, by decide⟩
set_option maxRecDepth 100000 in
theorem emk_301 : EM 301 := by
  unfold EM mN mB mO mL mR mA mSt mF mQ
  rw [mX_301]
  exact ⟨em_301, Or.inl ⟨rfl, ec_301⟩, by decide, by decide, by decide, by decide⟩
set_option maxRecDepth 100000 in
theorem emk_302 : EM 302 := by
  unfold EM mN mB mO mL mR mA mSt mF mQ
  rw [mX_302]
  exact ⟨em_302, Or.inl ⟨rfl, ec_302⟩, by decide, by decide, by decide, by decide⟩
set_option maxRecDepth 100000 in
theorem emk_303 : EM 303 := by
  unfold EM mN mB mO mL mR mA mSt mF mQ
  rw [mX_303]
  exact ⟨em_303, Or.inl ⟨rfl, ec_303⟩, by decide, by decide, by decide, by decide⟩
set_option maxRecDepth 100000 in
theorem emk_304 : EM 304 := by
  unfold EM mN mB mO mL mR mA mSt mF mQ
  rw [mX_304]
  exact ⟨em_304, Or.inl ⟨rfl, ec_304⟩, by decide, by decide, by decide, by decide⟩
set_option maxRecDepth 100000 in
theorem emk_305 : EM 305 := by
  unfold EM mN mB mO mL mR mA mSt mF mQ
  rw [mX_305]
  exact ⟨em_305, Or.inl ⟨rfl, ec_305⟩, by decide, by decide, by decide, by decide⟩
set_option maxRecDepth 100000 in
theorem emk_306 : EM 306 := by
  unfold EM mN mB mO mL mR mA mSt mF mQ
  rw [mX_306]
  exact ⟨em_306, Or.inl ⟨rfl, ec_306⟩, by decide, by decide, by decide, by decide⟩
set_option maxRecDepth 100000 in
theorem emk_307 : EM 307 := by
  unfold EM mN mB mO mL mR mA mSt mF mQ
  rw [mX_307]
  exact ⟨em_307, Or.inl ⟨rfl, ec_307⟩, by decide, by decide, by decide, by decide⟩
set_option maxRecDepth 100000 in
theorem emk_308 : EM 308 := by
  unfold EM mN mB mO mL mR mA mSt mF mQ
  rw [mX_308]
  exact ⟨em_308, Or.inl ⟨rfl, ec_308⟩, by decide, by decide, by decide, by decide⟩
set_option maxRecDepth 100000 in
theorem emk_309 : EM 309 := by
  unfold EM mN mB mO mL mR mA mSt mF mQ
  rw [mX_309]
  exact ⟨em_309, Or.inl ⟨rfl, ec_309⟩, by decide, by decide, by decide, by decide⟩
set_option maxRecDepth 100000 in
theorem emk_310 : EM 310 := by
  unfold EM mN mB mO mL mR mA mSt mF mQ
  rw [mX_310]
  exact ⟨em_310, Or.inl ⟨rfl, ec_310⟩, by decide, by decide, by decide, by decide⟩
set_option maxRecDepth 100000 in
theorem emk_311 : EM 311 := by
  unfold EM mN mB mO mL mR mA mSt mF mQ
  rw [mX_311]
  exact ⟨em_311, Or.inl ⟨rfl, ec_311⟩, by decide, by decide, by decide, by decide⟩
set_option maxRecDepth 100000 in
theorem emk_312 : EM 312 := by
  unfold EM mN mB mO mL mR mA mSt mF mQ
  rw [mX_312]
  exact ⟨em_312, Or.inl ⟨rfl, ec_312⟩, by decide, by decide, by decide, by decide⟩
set_option maxRecDepth 100000 in
theorem emk_313 : EM 313 := by
  unfold EM mN mB mO mL mR mA mSt mF mQ
  rw [mX_313]
  exact ⟨em_313, Or.inl ⟨rfl, ec_313⟩, by decide, by decide, by decide, by decide⟩
set_option maxRecDepth 100000 in
theorem emk_314 : EM 314 := by
  unfold EM mN mB mO mL mR mA mSt mF mQ
  rw [mX_314]
  exact ⟨em_314, Or.inl ⟨rfl, ec_314⟩, by decide, by decide, by decide, by decide⟩
set_option maxRecDepth 100000 in
theorem emk_315 : EM 315 := by
  unfold EM mN mB mO mL mR mA mSt mF mQ
  rw [mX_315]
  exact ⟨em_315, Or.inl ⟨rfl, ec_315⟩, by decide, by decide, by decide, by decide⟩
set_option maxRecDepth 100000 in
theorem emk_316 : EM 316 := by
  unfold EM mN mB mO mL mR mA mSt mF mQ
  rw [mX_316]
  exact ⟨em_316, Or.inl ⟨rfl, ec_316⟩, by decide, by decide, by decide, by decide⟩
set_option maxRecDepth 100000 in
theorem emk_317 : EM 317 := by
  unfold EM mN mB mO mL mR mA mSt mF mQ
  rw [mX_317]
  exact ⟨em_317, Or.inl ⟨rfl, ec_317⟩, by decide, by decide, by decide, by decide⟩
set_option maxRecDepth 100000 in
theorem emk_318 : EM 318 := by
  unfold EM mN mB mO mL mR mA mSt mF mQ
  rw [mX_318]
  exact ⟨em_318, Or.inl ⟨rfl, ec_318⟩, by decide, by decide, by decide, by decide⟩
set_option maxRecDepth 100000 in
theorem emk_319 : EM 319 := by
  unfold EM mN mB mO mL mR mA mSt mF mQ
  rw [mX_319]
  exact ⟨em_319, Or.inl ⟨rfl, ec_319⟩, by decide, by decide, by decide, by decide⟩
set_option maxRecDepth 100000 in
theorem emk_320 : EM 320 := by
  unfold EM mN mB mO mL mR mA mSt mF mQ
  rw [mX_320]
  exact ⟨em_320, Or.inl ⟨rfl, ec_320⟩, by decide, by decide, by decide, by decide⟩
set_option maxRecDepth 100000 in
theorem emk_321 : EM 321 := by
  unfold EM mN mB mO mL mR mA mSt mF mQ
  rw [mX_321]
  exact ⟨em_321, Or.inl ⟨rfl, ec_321⟩, by decide, by decide, by decide, by decide⟩
set_option maxRecDepth 100000 in
theorem emk_322 : EM 322 := by
  unfold EM mN mB mO mL mR mA mSt mF mQ
  rw [mX_322]
  exact ⟨em_322, Or.inl ⟨rfl, ec_322⟩, by decide, by decide, by decide, by decide⟩
set_option maxRecDepth 100000 in
theorem emk_323 : EM 323 := by
  unfold EM mN mB mO mL mR mA mSt mF mQ
  rw [mX_323]
  exact ⟨em_323, Or.inl ⟨rfl, ec_323⟩, by decide, by decide, by decide, by decide⟩
set_option maxRecDepth 100000 in
theorem emk_324 : EM 324 := by
  unfold EM mN mB mO mL mR mA mSt mF mQ
  rw [mX_324]
  exact ⟨em_324, Or.inl ⟨rfl, ec_324⟩, by decide, by decide, by decide, by decide⟩
set_option maxRecDepth 100000 in
theorem emk_325 : EM 325 := by
  unfold EM mN mB mO mL mR mA mSt mF mQ
  rw [mX_325]
  exact ⟨em_325, Or.inl ⟨rfl, ec_325⟩, by decide, by decide, by decide, by decide⟩
set_option maxRecDepth 100000 in
theorem emk_326 : EM 326 := by
  unfold EM mN mB mO mL mR mA mSt mF mQ
  rw [mX_326]
  exact ⟨em_326, Or.inl ⟨rfl, ec_326⟩, by decide, by decide, by decide, by decide⟩
set_option maxRecDepth 100000 in
theorem emk_327 : EM 327 := by
  unfold EM mN mB mO mL mR mA mSt mF mQ
  rw [mX_327]
  exact ⟨em_327, Or.inl ⟨rfl, ec_327⟩, by decide, by decide, by decide, by decide⟩
set_option maxRecDepth 100000 in
theorem emk_328 : EM 328 := by
  unfold EM mN mB mO mL mR mA mSt mF mQ
  rw [mX_328]
  exact ⟨em_328, Or.inl ⟨rfl, ec_328⟩, by decide, by decide, by decide, by decide⟩
set_option maxRecDepth 100000 in
theorem emk_329 : EM 329 := by
  unfold EM mN mB mO mL mR mA mSt mF mQ
  rw [mX_329]
  exact ⟨em_329, Or.inl ⟨rfl, ec_329⟩, by decide, by decide, by decide, by decide⟩
set_option maxRecDepth 100000 in
theorem emk_330 : EM 330 := by
  unfold EM mN mB mO mL mR mA mSt mF mQ
  rw [mX_330]
  exact ⟨em_330, Or.inl ⟨rfl, ec_330⟩, by decide, by decide, by decide, by decide⟩
set_option maxRecDepth 100000 in
theorem emk_331 : EM 331 := by
  unfold EM mN mB mO mL mR mA mSt mF mQ
  rw [mX_331]
  exact ⟨em_331, Or.inl ⟨rfl, ec_331⟩, by decide, by decide, by decide, by decide⟩
set_option maxRecDepth 100000 in
theorem emk_332 : EM 332 := by
  unfold EM mN mB mO mL mR mA mSt mF mQ
  rw [mX_332]
  exact ⟨em_332, Or.inl ⟨rfl, ec_332⟩, by decide, by decide, by decide, by decide⟩
set_option maxRecDepth 100000 in
theorem emk_333 : EM 333 := by
  unfold EM mN mB mO mL mR mA mSt mF mQ
  rw [mX_333]
  exact ⟨em_333, Or.inl ⟨rfl, ec_333⟩, by decide, by decide, by decide, by decide⟩
set_option maxRecDepth 100000 in
theorem emk_334 : EM 334 := by
  unfold EM mN mB mO mL mR mA mSt mF mQ
  rw [mX_334]
  exact ⟨em_334, Or.inl ⟨rfl, ec_334⟩, by decide, by decide, by decide, by decide⟩
set_option maxRecDepth 100000 in
theorem emk_335 : EM 335 := by
  unfold EM mN mB mO mL mR mA mSt mF mQ
  rw [mX_335]
  exact ⟨em_335, Or.inl ⟨rfl, ec_335⟩, by decide, by decide, by decide, by decide⟩
set_option maxRecDepth 100000 in
theorem emk_336 : EM 336 := by
  unfold EM mN mB mO mL mR mA mSt mF mQ
  rw [mX_336]
  exact ⟨em_336, Or.inl ⟨rfl, ec_336⟩, by decide, by decide, by decide, by decide⟩
set_option maxRecDepth 100000 in
theorem emk_337 : EM 337 := by
  unfold EM mN mB mO mL mR mA mSt mF mQ
  rw [mX_337]
  exact ⟨em_337, Or.inl ⟨rfl, ec_337⟩, by decide, by decide, by decide, by decide⟩
set_option maxRecDepth 100000 in
theorem emk_338 : EM 338 := by
  unfold EM mN mB mO mL mR mA mSt mF mQ
  rw [mX_338]
  exact ⟨em_338, Or.inl ⟨rfl, ec_338⟩, by decide, by decide, by decide, by decide⟩
set_option maxRecDepth 100000 in
theorem emk_339 : EM 339 := by
  unfold EM mN mB mO mL mR mA mSt mF mQ
  rw [mX_339]
  exact ⟨em_339, Or.inl ⟨rfl, ec_339⟩, by decide, by decide, by decide, by decide⟩
set_option maxRecDepth 100000 in
theorem emk_340 : EM 340 := by
  unfold EM mN mB mO mL mR mA mSt mF mQ
  rw [mX_340]
  exact ⟨em_340, Or.inl ⟨rfl, ec_340⟩, by decide, by decide, by decide, by decide⟩
set_option maxRecDepth 100000 in
theorem emk_341 : EM 341 := by
  unfold EM mN mB mO mL mR mA mSt mF mQ
  rw [mX_341]
  exact ⟨em_341, Or.inl ⟨rfl, ec_341⟩, by decide, by decide, by decide, by decide⟩
set_option maxRecDepth 100000 in
theorem emk_342 : EM 342 := by
  unfold EM mN mB mO mL mR mA mSt mF mQ
  rw [mX_342]
  exact ⟨em_342, Or.inl ⟨rfl, ec_342⟩, by decide, by decide, by decide, by decide⟩
set_option maxRecDepth 100000 in
theorem emk_343 : EM 343 := by
  unfold EM mN mB mO mL mR mA mSt mF mQ
  rw [mX_343]
  exact ⟨em_343, Or.inl ⟨rfl, ec_343⟩, by decide, by decide, by decide, by decide⟩
set_option maxRecDepth 100000 in
theorem emk_344 : EM 344 := by
  unfold EM mN mB mO mL mR mA mSt mF mQ
  rw [mX_344]
  exact ⟨em_344, Or.inl ⟨rfl, ec_344⟩, by decide, by decide, by decide, by decide⟩
set_option maxRecDepth 100000 in
theorem emk_345 : EM 345 := by
  unfold EM mN mB mO mL mR mA mSt mF mQ
  rw [mX_345]
  exact ⟨em_345, Or.inl ⟨rfl, ec_345⟩, by decide, by decide, by decide, by decide⟩
set_option maxRecDepth 100000 in
theorem emk_346 : EM 346 := by
  unfold EM mN mB mO mL mR mA mSt mF mQ
  rw [mX_346]
  exact ⟨em_346, Or.inl ⟨rfl, ec_346⟩, by decide, by decide, by decide, by decide⟩
set_option maxRecDepth 100000 in
theorem emk_347 : EM 347 := by
  unfold EM mN mB mO mL mR mA mSt mF mQ
  rw [mX_347]
  exact ⟨em_347, Or.inl ⟨rfl, ec_347⟩, by decide, by decide, by decide, by decide⟩
set_option maxRecDepth 100000 in
theorem emk_348 : EM 348 := by
  unfold EM mN mB mO mL mR mA mSt mF mQ
  rw [mX_348]
  exact ⟨em_348, Or.inl ⟨rfl, ec_348⟩, by decide, by decide, by decide, by decide⟩
set_option maxRecDepth 100000 in
theorem emk_349 : EM 349 := by
  unfold EM mN mB mO mL mR mA mSt mF mQ
  rw [mX_349]
  exact ⟨em_349, Or.inl ⟨rfl, ec_349⟩, by decide, by decide, by decide, by decide⟩
set_option maxRecDepth 100000 in
theorem emk_350 : EM 350 := by
  unfold EM mN mB mO mL mR mA mSt mF mQ
  rw [mX_350]
  exact ⟨em_350, Or.inl ⟨rfl, ec_350⟩, by decide, by decide, by decide, by decide⟩
set_option maxRecDepth 100000 in
theorem emk_351 : EM 351 := by
  unfold EM mN mB mO mL mR mA mSt mF mQ
  rw [mX_351]
  exact ⟨em_351, Or.inl ⟨rfl, ec_351⟩, by decide, by decide, by decide, by decide⟩
set_option maxRecDepth 100000 in
theorem emk_352 : EM 352 := by
  unfold EM mN mB mO mL mR mA mSt mF mQ
  rw [mX_352]
  exact ⟨em_352, Or.inl ⟨rfl, ec_352⟩, by decide, by decide, by decide, by decide⟩
set_option maxRecDepth 100000 in
theorem emk_353 : EM 353 := by
  unfold EM mN mB mO mL mR mA mSt mF mQ
  rw [mX_353]
  exact ⟨em_353, Or.inl ⟨rfl, ec_353⟩, by decide, by decide, by decide, by decide⟩
set_option maxRecDepth 100000 in
theorem emk_354 : EM 354 := by
  unfold EM mN mB mO mL mR mA mSt mF mQ
  rw [mX_354]
  exact ⟨em_354, Or.inl ⟨rfl, ec_354⟩, by decide, by decide, by decide, by decide⟩
set_option maxRecDepth 100000 in
theorem emk_355 : EM 355 := by
  unfold EM mN mB mO mL mR mA mSt mF mQ
  rw [mX_355]
  exact ⟨em_355, Or.inl ⟨rfl, ec_355⟩, by decide, by decide, by decide, by decide⟩
set_option maxRecDepth 100000 in
theorem emk_356 : EM 356 := by
  unfold EM mN mB mO mL mR mA mSt mF mQ
  rw [mX_356]
  exact ⟨em_356, Or.inl ⟨rfl, ec_356⟩, by decide, by decide, by decide, by decide⟩
set_option maxRecDepth 100000 in
theorem emk_357 : EM 357 := by
  unfold EM mN mB mO mL mR mA mSt mF mQ
  rw [mX_357]
  exact ⟨em_357, Or.inl ⟨rfl, ec_357⟩, by decide, by decide, by decide, by decide⟩
set_option maxRecDepth 100000 in
theorem emk_358 : EM 358 := by
  unfold EM mN mB mO mL mR mA mSt mF mQ
  rw [mX_358]
  exact ⟨em_358, Or.inl ⟨rfl, ec_358⟩, by decide, by decide, by decide, by decide⟩
set_option maxRecDepth 100000 in
theorem emk_359 : EM 359 := by
  unfold EM mN mB mO mL mR mA mSt mF mQ
  rw [mX_359]
  exact ⟨em_359, Or.inl ⟨rfl, ec_359⟩, by decide, by decide, by decide, by decide⟩
set_option maxRecDepth 100000 in
theorem emk_360 : EM 360 := by
  unfold EM mN mB mO mL mR mA mSt mF mQ
  rw [mX_360]
  exact ⟨em_360, Or.inl ⟨rfl, ec_360⟩, by decide, by decide, by decide, by decide⟩
set_option maxRecDepth 100000 in
theorem emk_361 : EM 361 := by
  unfold EM mN mB mO mL mR mA mSt mF mQ
  rw [mX_361]
  exact ⟨em_361, Or.inl ⟨rfl, ec_361⟩, by decide, by decide, by decide, by decide⟩
set_option maxRecDepth 100000 in
theorem emk_362 : EM 362 := by
  unfold EM mN mB mO mL mR mA mSt mF mQ
  rw [mX_362]
  exact ⟨em_362, Or.inl ⟨rfl, ec_362⟩, by decide, by decide, by decide, by decide⟩
set_option maxRecDepth 100000 in
theorem emk_363 : EM 363 := by
  unfold EM mN mB mO mL mR mA mSt mF mQ
  rw [mX_363]
  exact ⟨em_363, Or.inl ⟨rfl, ec_363⟩, by decide, by decide, by decide, by decide⟩
set_option maxRecDepth 100000 in
theorem emk_364 : EM 364 := by
  unfold EM mN mB mO mL mR mA mSt mF mQ
  rw [mX_364]
  exact ⟨em_364, Or.inl ⟨rfl, ec_364⟩, by decide, by decide, by decide, by decide⟩
set_option maxRecDepth 100000 in
theorem emk_365 : EM 365 := by
  unfold EM mN mB mO mL mR mA mSt mF mQ
  rw [mX_365]
  exact ⟨em_365, Or.inl ⟨rfl, ec_365⟩, by decide, by decide, by decide, by decide⟩
set_option maxRecDepth 100000 in
theorem emk_366 : EM 366 := by
  unfold EM mN mB mO mL mR mA mSt mF mQ
  rw [mX_366]
  exact ⟨em_366, Or.inl ⟨rfl, ec_366⟩, by decide, by decide, by decide, by decide⟩
set_option maxRecDepth 100000 in
theorem emk_367 : EM 367 := by
  unfold EM mN mB mO mL mR mA mSt mF mQ
  rw [mX_367]
  exact ⟨em_367, Or.inl ⟨rfl, ec_367⟩, by decide, by decide, by decide, by decide⟩
set_option maxRecDepth 100000 in
theorem emk_368 : EM 368 := by
  unfold EM mN mB mO mL mR mA mSt mF mQ
  rw [mX_368]
  exact ⟨em_368, Or.inl ⟨rfl, ec_368⟩, by decide, by decide, by decide, by decide⟩
set_option maxRecDepth 100000 in
theorem emk_369 : EM 369 := by
  unfold EM mN mB mO mL mR mA mSt mF mQ
  rw [mX_369]
  exact ⟨em_369, Or.inl ⟨rfl, ec_369⟩, by decide, by decide, by decide, by decide⟩
set_option maxRecDepth 100000 in
theorem emk_370 : EM 370 := by
  unfold EM mN mB mO mL mR mA mSt mF mQ
  rw [mX_370]
  exact ⟨em_370, Or.inl ⟨rfl, ec_370⟩, by decide, by decide, by decide, by decide⟩
set_option maxRecDepth 100000 in
theorem emk_371 : EM 371 := by
  unfold EM mN mB mO mL mR mA mSt mF mQ
  rw [mX_371]
  exact ⟨em_371, Or.inl ⟨rfl, ec_371⟩, by decide, by decide, by decide, by decide⟩
set_option maxRecDepth 100000 in
theorem emk_372 : EM 372 := by
  unfold EM mN mB mO mL mR mA mSt mF mQ
  rw [mX_372]
  exact ⟨em_372, Or.inl ⟨rfl, ec_372⟩, by decide, by decide, by decide, by decide⟩
set_option maxRecDepth 100000 in
theorem emk_373 : EM 373 := by
  unfold EM mN mB mO mL mR mA mSt mF mQ
  rw [mX_373]
  exact ⟨em_373, Or.inl ⟨rfl, ec_373⟩, by decide, by decide, by decide, by decide⟩
set_option maxRecDepth 100000 in
theorem emk_374 : EM 374 := by
  unfold EM mN mB mO mL mR mA mSt mF mQ
  rw [mX_374]
  exact ⟨em_374, Or.inl ⟨rfl, ec_374⟩, by decide, by decide, by decide, by decide⟩
set_option maxRecDepth 100000 in
theorem emk_375 : EM 375 := by
  unfold EM mN mB mO mL mR mA mSt mF mQ
  rw [mX_375]
  exact ⟨em_375, Or.inl ⟨rfl, ec_375⟩, by decide, by decide, by decide, by decide⟩
set_option maxRecDepth 100000 in
theorem emk_376 : EM 376 := by
  unfold EM mN mB mO mL mR mA mSt mF mQ
  rw [mX_376]
  exact ⟨em_376, Or.inl ⟨rfl, ec_376⟩, by decide, by decide, by decide, by decide⟩
set_option maxRecDepth 100000 in
theorem emk_377 : EM 377 := by
  unfold EM mN mB mO mL mR mA mSt mF mQ
  rw [mX_377]
  exact ⟨em_377, Or.inl ⟨rfl, ec_377⟩, by decide, by decide, by decide, by decide⟩
set_option maxRecDepth 100000 in
theorem emk_378 : EM 378 := by
  unfold EM mN mB mO mL mR mA mSt mF mQ
  rw [mX_378]
  exact ⟨em_378, Or.inl ⟨rfl, ec_378⟩, by decide, by decide, by decide, by decide⟩
set_option maxRecDepth 100000 in
theorem emk_379 : EM 379 := by
  unfold EM mN mB mO mL mR mA mSt mF mQ
  rw [mX_379]
  exact ⟨em_379, Or.inr ⟨rfl, ec_379⟩, by decide, by decide, by decide, by decide⟩
set_option maxRecDepth 100000 in
theorem emk_380 : EM 380 := by
  unfold EM mN mB mO mL mR mA mSt mF mQ
  rw [mX_380]
  exact ⟨em_380, Or.inr ⟨rfl, ec_380⟩, by decide, by decide, by decide, by decide⟩
set_option maxRecDepth 100000 in
theorem emk_381 : EM 381 := by
  unfold EM mN mB mO mL mR mA mSt mF mQ
  rw [mX_381]
  exact ⟨em_381, Or.inr ⟨rfl, ec_381⟩, by decide, by decide, by decide, by decide⟩
set_option maxRecDepth 100000 in
theorem emk_382 : EM 382 := by
  unfold EM mN mB mO mL mR mA mSt mF mQ
  rw [mX_382]
  exact ⟨em_382, Or.inr ⟨rfl, ec_382⟩, by decide, by decide, by decide, by decide⟩
set_option maxRecDepth 100000 in
theorem emk_383 : EM 383 := by
  unfold EM mN mB mO mL mR mA mSt mF mQ
  rw [mX_383]
  exact ⟨em_383, Or.inr ⟨rfl, ec_383⟩, by decide, by decide, by decide, by decide⟩
set_option maxRecDepth 100000 in
theorem emk_384 : EM 384 := by
  unfold EM mN mB mO mL mR mA mSt mF mQ
  rw [mX_384]
  exact ⟨em_384, Or.inr ⟨rfl, ec_384⟩, by decide, by decide, by decide, by decide⟩
set_option maxRecDepth 100000 in
theorem emk_385 : EM 385 := by
  unfold EM mN mB mO mL mR mA mSt mF mQ
  rw [mX_385]
  exact ⟨em_385, Or.inr ⟨rfl, ec_385⟩, by decide, by decide, by decide, by decide⟩
set_option maxRecDepth 100000 in
theorem emk_386 : EM 386 := by
  unfold EM mN mB mO mL mR mA mSt mF mQ
  rw [mX_386]
  exact ⟨em_386, Or.inr ⟨rfl, ec_386⟩, by decide, by decide, by decide, by decide⟩
set_option maxRecDepth 100000 in
theorem emk_387 : EM 387 := by
  unfold EM mN mB mO mL mR mA mSt mF mQ
  rw [mX_387]
  exact ⟨em_387, Or.inr ⟨rfl, ec_387⟩, by decide, by decide, by decide, by decide⟩
set_option maxRecDepth 100000 in
theorem emk_388 : EM 388 := by
  unfold EM mN mB mO mL mR mA mSt mF mQ
  rw [mX_388]
  exact ⟨em_388, Or.inr ⟨rfl, ec_388⟩, by decide, by decide, by decide, by decide⟩
set_option maxRecDepth 100000 in
theorem emk_389 : EM 389 := by
  unfold EM mN mB mO mL mR mA mSt mF mQ
  rw [mX_389]
  exact ⟨em_389, Or.inr ⟨rfl, ec_389⟩, by decide, by decide, by decide, by decide⟩
set_option maxRecDepth 100000 in
theorem emk_390 : EM 390 := by
  unfold EM mN mB mO mL mR mA mSt mF mQ
  rw [mX_390]
  exact ⟨em_390, Or.inr ⟨rfl, ec_390⟩, by decide, by decide, by decide, by decide⟩
set_option maxRecDepth 100000 in
theorem emk_391 : EM 391 := by
  unfold EM mN mB mO mL mR mA mSt mF mQ
  rw [mX_391]
  exact ⟨em_391, Or.inr ⟨rfl, ec_391⟩, by decide, by decide, by decide, by decide⟩
set_option maxRecDepth 100000 in
theorem emk_392 : EM 392 := by
  unfold EM mN mB mO mL mR mA mSt mF mQ
  rw [mX_392]
  exact ⟨em_392, Or.inr ⟨rfl, ec_392⟩, by decide, by decide, by decide, by decide⟩
set_option maxRecDepth 100000 in
theorem emk_393 : EM 393 := by
  unfold EM mN mB mO mL mR mA mSt mF mQ
  rw [mX_393]
  exact ⟨em_393, Or.inr ⟨rfl, ec_393⟩, by decide, by decide, by decide, by decide⟩
set_option maxRecDepth 100000 in
theorem emk_394 : EM 394 := by
  unfold EM mN mB mO mL mR mA mSt mF mQ
  rw [mX_394]
  exact ⟨em_394, Or.inr ⟨rfl, ec_394⟩, by decide, by decide, by decide, by decide⟩
set_option maxRecDepth 100000 in
theorem emk_395 : EM 395 := by
  unfold EM mN mB mO mL mR mA mSt mF mQ
  rw [mX_395]
  exact ⟨em_395, Or.inr ⟨rfl, ec_395⟩, by decide, by decide, by decide, by decide⟩
set_option maxRecDepth 100000 in
theorem emk_396 : EM 396 := by
  unfold EM mN mB mO mL mR mA mSt mF mQ
  rw [mX_396]
  exact ⟨em_396, Or.inr ⟨rfl, ec_396⟩, by decide, by decide, by decide, by decide⟩
set_option maxRecDepth 100000 in
theorem emk_397 : EM 397 := by
  unfold EM mN mB mO mL mR mA mSt mF mQ
  rw [mX_397]
  exact ⟨em_397, Or.inr ⟨rfl, ec_397⟩, by decide, by decide, by decide, by decide⟩
set_option maxRecDepth 100000 in
theorem emk_398 : EM 398 := by
  unfold EM mN mB mO mL mR mA mSt mF mQ
  rw [mX_398]
  exact ⟨em_398, Or.inr ⟨rfl, ec_398⟩, by decide, by decide, by decide, by decide⟩
set_option maxRecDepth 100000 in
theorem emk_399 : EM 399 := by
  unfold EM mN mB mO mL mR mA mSt mF mQ
  rw [mX_399]
  exact ⟨em_399, Or.inr ⟨rfl, ec_399⟩, by decide, by decide, by decide, by decide⟩
set_option maxRecDepth 100000 in
theorem emk_400 : EM 400 := by
  unfold EM mN mB mO mL mR mA mSt mF mQ
  rw [mX_400]
  exact ⟨em_400, Or.inr ⟨rfl, ec_400⟩, by decide, by decide, by decide, by decide⟩
set_option maxRecDepth 100000 in
theorem emk_401 : EM 401 := by
  unfold EM mN mB mO mL mR mA mSt mF mQ
  rw [mX_401]
  exact ⟨em_401, Or.inr ⟨rfl, ec_401⟩, by decide, by decide, by decide, by decide⟩
set_option maxRecDepth 100000 in
theorem emk_402 : EM 402 := by
  unfold EM mN mB mO mL mR mA mSt mF mQ
  rw [mX_402]
  exact ⟨em_402, Or.inr ⟨rfl, ec_402⟩, by decide, by decide, by decide, by decide⟩
set_option maxRecDepth 100000 in
theorem emk_403 : EM 403 := by
  unfold EM mN mB mO mL mR mA mSt mF mQ
  rw [mX_403]
  exact ⟨em_403, Or.inr ⟨rfl, ec_403⟩, by decide, by decide, by decide, by decide⟩
set_option maxRecDepth 100000 in
theorem emk_404 : EM 404 := by
  unfold EM mN mB mO mL mR mA mSt mF mQ
  rw [mX_404]
  exact ⟨em_404, Or.inr ⟨rfl, ec_404⟩, by decide, by decide, by decide, by decide⟩
set_option maxRecDepth 100000 in
theorem emk_405 : EM 405 := by
  unfold EM mN mB mO mL mR mA mSt mF mQ
  rw [mX_405]
  exact ⟨em_405, Or.inr ⟨rfl, ec_405⟩, by decide, by decide, by decide, by decide⟩
set_option maxRecDepth 100000 in
theorem emk_406 : EM 406 := by
  unfold EM mN mB mO mL mR mA mSt mF mQ
  rw [mX_406]
  exact ⟨em_406, Or.inr ⟨rfl, ec_406⟩, by decide, by decide, by decide, by decide⟩
set_option maxRecDepth 100000 in
theorem emk_407 : EM 407 := by
  unfold EM mN mB mO mL mR mA mSt mF mQ
  rw [mX_407]
  exact ⟨em_407, Or.inr ⟨rfl, ec_407⟩, by decide, by decide, by decide, by decide⟩
set_option maxRecDepth 100000 in
theorem emk_408 : EM 408 := by
  unfold EM mN mB mO mL mR mA mSt mF mQ
  rw [mX_408]
  exact ⟨em_408, Or.inr ⟨rfl, ec_408⟩, by decide, by decide, by decide, by decide⟩
set_option maxRecDepth 100000 in
theorem emk_409 : EM 409 := by
  unfold EM mN mB mO mL mR mA mSt mF mQ
  rw [mX_409]
  exact ⟨em_409, Or.inr ⟨rfl, ec_409⟩, by decide, by decide, by decide, by decide⟩
set_option maxRecDepth 100000 in
theorem emk_410 : EM 410 := by
  unfold EM mN mB mO mL mR mA mSt mF mQ
  rw [mX_410]
  exact ⟨em_410, Or.inr ⟨rfl, ec_410⟩, by decide, by decide, by decide, by decide⟩
set_option maxRecDepth 100000 in
theorem emk_411 : EM 411 := by
  unfold EM mN mB mO mL mR mA mSt mF mQ
  rw [mX_411]
  exact ⟨em_411, Or.inr ⟨rfl, ec_411⟩, by decide, by decide, by decide, by decide⟩
set_option maxRecDepth 100000 in
theorem emk_412 : EM 412 := by
  unfold EM mN mB mO mL mR mA mSt mF mQ
  rw [mX_412]
  exact ⟨em_412, Or.inr ⟨rfl, ec_412⟩, by decide, by decide, by decide, by decide⟩
set_option maxRecDepth 100000 in
theorem emk_413 : EM 413 := by
  unfold EM mN mB mO mL mR mA mSt mF mQ
  rw [mX_413]
  exact ⟨em_413, Or.inr ⟨rfl, ec_413⟩, by decide, by decide, by decide, by decide⟩
set_option maxRecDepth 100000 in
theorem emk_414 : EM 414 := by
  unfold EM mN mB mO mL mR mA mSt mF mQ
  rw [mX_414]
  exact ⟨em_414, Or.inr ⟨rfl, ec_414⟩, by decide, by decide, by decide, by decide⟩
set_option maxRecDepth 100000 in
theorem emk_415 : EM 415 := by
  unfold EM mN mB mO mL mR mA mSt mF mQ
  rw [mX_415]
  exact ⟨em_415, Or.inr ⟨rfl, ec_415⟩, by decide, by decide, by decide, by decide⟩
set_option maxRecDepth 100000 in
theorem emk_416 : EM 416 := by
  unfold EM mN mB mO mL mR mA mSt mF mQ
  rw [mX_416]
  exact ⟨em_416, Or.inr ⟨rfl, ec_416⟩, by decide, by decide, by decide, by decide⟩
set_option maxRecDepth 100000 in
theorem emk_417 : EM 417 := by
  unfold EM mN mB mO mL mR mA mSt mF mQ
  rw [mX_417]
  exact ⟨em_417, Or.inr ⟨rfl, ec_417⟩, by decide, by decide, by decide, by decide⟩
set_option maxRecDepth 100000 in
theorem emk_418 : EM 418 := by
  unfold EM mN mB mO mL mR mA mSt mF mQ
  rw [mX_418]
  exact ⟨em_418, Or.inr ⟨rfl, ec_418⟩, by decide, by decide, by decide, by decide⟩
set_option maxRecDepth 100000 in
theorem emk_419 : EM 419 := by
  unfold EM mN mB mO mL mR mA mSt mF mQ
  rw [mX_419]
  exact ⟨em_419, Or.inr ⟨rfl, ec_419⟩, by decide, by decide, by decide, by decide⟩
set_option maxRecDepth 100000 in
theorem emL_0 : ∀ z ∈ ([0, 1, 2, 3, 4, 5, 6, 7, 8, 9, 10, 11, 12, 13, 14, 15, 16, 17, 18, 19, 20, 21, 22, 23, 24, 25, 26, 27, 28, 29, 30, 31, 32, 33, 34, 35, 36, 37, 38, 39, 40, 41, 42, 43, 44, 45, 46, 47, 48, 49, 50, 51, 52, 53, 54, 55, 56, 57, 58, 59, 60, 61, 62, 63, 64, 65, 66, 67, 68, 69] : List Nat), EM z := List.forall_mem_cons.mpr ⟨emk_0, List.forall_mem_cons.mpr ⟨emk_1, List.forall_mem_cons.mpr ⟨emk_2, List.forall_mem_cons.mpr ⟨emk_3, List.forall_mem_cons.mpr ⟨emk_4, List.forall_mem_cons.mpr ⟨emk_5, List.forall_mem_cons.mpr ⟨emk_6, List.forall_mem_cons.mpr ⟨emk_7, List.forall_mem_cons.mpr ⟨emk_8, List.forall_mem_cons.mpr ⟨emk_9, List.forall_mem_cons.mpr ⟨emk_10, List.forall_mem_cons.mpr ⟨emk_11, List.forall_mem_cons.mpr ⟨emk_12, List.forall_mem_cons.mpr ⟨emk_13, List.forall_mem_cons.mpr ⟨emk_14, List.forall_mem_cons.mpr ⟨emk_15, List.forall_mem_cons.mpr ⟨emk_16, List.forall_mem_cons.mpr ⟨emk_17, List.forall_mem_cons.mpr ⟨emk_18, List.forall_mem_cons.mpr ⟨emk_19, List.forall_mem_cons.mpr ⟨emk_20, List.forall_mem_cons.mpr ⟨emk_21, List.forall_mem_cons.mpr ⟨emk_22, List.forall_mem_cons.mpr ⟨emk_23, List.forall_mem_cons.mpr ⟨emk_24, List.forall_mem_cons.mpr ⟨emk_25, List.forall_mem_cons.mpr ⟨emk_26, List.forall_mem_cons.mpr ⟨emk_27, List.forall_mem_cons.mpr ⟨emk_28, List.forall_mem_cons.mpr ⟨emk_29, List.forall_mem_cons.mpr ⟨emk_30, List.forall_mem_cons.mpr ⟨emk_31, List.forall_mem_cons.mpr ⟨emk_32, List.forall_mem_cons.mpr ⟨emk_33, List.forall_mem_cons.mpr ⟨emk_34, List.forall_mem_cons.mpr ⟨emk_35, List.forall_mem_cons.mpr ⟨emk_36, List.forall_mem_cons.mpr ⟨emk_37, List.forall_mem_cons.mpr ⟨emk_38, List.forall_mem_cons.mpr ⟨emk_39, List.forall_mem_cons.mpr ⟨emk_40, List.forall_mem_cons.mpr ⟨emk_41, List.forall_mem_cons.mpr ⟨emk_42, List.forall_mem_cons.mpr ⟨emk_43, List.forall_mem_cons.mpr ⟨emk_44, List.forall_mem_cons.mpr ⟨emk_45, List.forall_mem_cons.mpr ⟨emk_46, List.forall_mem_cons.mpr ⟨emk_47, List.forall_mem_cons.mpr ⟨emk_48, List.forall_mem_cons.mpr ⟨emk_49, List.forall_mem_cons.mpr ⟨emk_50, List.forall_mem_cons.mpr ⟨emk_51, List.forall_mem_cons.mpr ⟨emk_52, List.forall_mem_cons.mpr ⟨emk_53, List.forall_mem_cons.mpr ⟨emk_54, List.forall_mem_cons.mpr ⟨emk_55, List.forall_mem_cons.mpr ⟨emk_56, List.forall_mem_cons.mpr ⟨emk_57, List.forall_mem_cons.mpr ⟨emk_58, List.forall_mem_cons.mpr ⟨emk_59, List.forall_mem_cons.mpr ⟨emk_60, List.forall_mem_cons.mpr ⟨emk_61, List.forall_mem_cons.mpr ⟨emk_62, List.forall_mem_cons.mpr ⟨emk_63, List.forall_mem_cons.mpr ⟨emk_64, List.forall_mem_cons.mpr ⟨emk_65, List.forall_mem_cons.mpr ⟨emk_66, List.forall_mem_cons.mpr ⟨emk_67, List.forall_mem_cons.mpr ⟨emk_68, List.forall_mem_cons.mpr ⟨emk_69, fun _ h => absurd h List.not_mem_nil⟩⟩⟩⟩⟩⟩⟩⟩⟩⟩⟩⟩⟩⟩⟩⟩⟩⟩⟩⟩⟩⟩⟩⟩⟩⟩⟩⟩⟩⟩⟩⟩⟩⟩⟩⟩⟩⟩⟩⟩⟩⟩⟩⟩⟩⟩⟩⟩⟩⟩⟩⟩⟩⟩⟩⟩⟩⟩⟩⟩⟩⟩⟩⟩⟩⟩⟩⟩⟩⟩
set_option maxRecDepth 100000 in
theorem emL_1 : ∀ z ∈ ([70, 71, 72, 73, 74, 75, 76, 77, 78, 79, 80, 81, 82, 83, 84, 85, 86, 87, 88, 89, 90, 91, 92, 93, 94, 95, 96, 97, 98, 99, 100, 101, 102, 103, 104, 105, 106, 107, 108, 109, 110, 111, 112, 113, 114, 115, 116, 117, 118, 119, 120, 121, 122, 123, 124, 125, 126, 127, 128, 129, 130, 131, 132, 133, 134, 135, 136, 137, 138, 139] : List Nat), EM z := List.forall_mem_cons.mpr ⟨emk_70, List.forall_mem_cons.mpr ⟨emk_71, List.forall_mem_cons.mpr ⟨emk_72, List.forall_mem_cons.mpr ⟨emk_73, List.forall_mem_cons.mpr ⟨emk_74, List.forall_mem_cons.mpr ⟨emk_75, List.forall_mem_cons.mpr ⟨emk_76, List.forall_mem_cons.mpr ⟨emk_77, List.forall_mem_cons.mpr ⟨emk_78, List.forall_mem_cons.mpr ⟨emk_79, List.forall_mem_cons.mpr ⟨emk_80, List.forall_mem_cons.mpr ⟨emk_81, List.forall_mem_cons.mpr ⟨emk_82, List.forall_mem_cons.mpr ⟨emk_83, List.forall_mem_cons.mpr ⟨emk_84, List.forall_mem_cons.mpr ⟨emk_85, List.forall_mem_cons.mpr ⟨emk_86, List.forall_mem_cons.mpr ⟨emk_87, List.forall_mem_cons.mpr ⟨emk_88, List.forall_mem_cons.mpr ⟨emk_89, List.forall_mem_cons.mpr ⟨emk_90, List.forall_mem_cons.mpr ⟨emk_91, List.forall_mem_cons.mpr ⟨emk_92, List.forall_mem_cons.mpr ⟨emk_93, List.forall_mem_cons.mpr ⟨emk_94, List.forall_mem_cons.mpr ⟨emk_95, List.forall_mem_cons.mpr ⟨emk_96, List.forall_mem_cons.mpr ⟨emk_97, List.forall_mem_cons.mpr ⟨emk_98, List.forall_mem_cons.mpr ⟨emk_99, List.forall_mem_cons.mpr ⟨emk_100, List.forall_mem_cons.mpr ⟨emk_101, List.forall_mem_cons.mpr ⟨emk_102, List.forall_mem_cons.mpr ⟨emk_103, List.forall_mem_cons.mpr ⟨emk_104, List.forall_mem_cons.mpr ⟨emk_105, List.forall_mem_cons.mpr ⟨emk_106, List.forall_mem_cons.mpr ⟨emk_107, List.forall_mem_cons.mpr ⟨emk_108, List.forall_mem_cons.mpr ⟨emk_109, List.forall_mem_cons.mpr ⟨emk_110, List.forall_mem_cons.mpr ⟨emk_111, List.forall_mem_cons.mpr ⟨emk_112, List.forall_mem_cons.mpr ⟨emk_113, List.forall_mem_cons.mpr ⟨emk_114, List.forall_mem_cons.mpr ⟨emk_115, List.forall_mem_cons.mpr ⟨emk_116, List.forall_mem_cons.mpr ⟨emk_117, List.forall_mem_cons.mpr ⟨emk_118, List.forall_mem_cons.mpr ⟨emk_119, List.forall_mem_cons.mpr ⟨emk_120, List.forall_mem_cons.mpr ⟨emk_121, List.forall_mem_cons.mpr ⟨emk_122, List.forall_mem_cons.mpr ⟨emk_123, List.forall_mem_cons.mpr ⟨emk_124, List.forall_mem_cons.mpr ⟨emk_125, List.forall_mem_cons.mpr ⟨emk_126, List.forall_mem_cons.mpr ⟨emk_127, List.forall_mem_cons.mpr ⟨emk_128, List.forall_mem_cons.mpr ⟨emk_129, List.forall_mem_cons.mpr ⟨emk_130, List.forall_mem_cons.mpr ⟨emk_131, List.forall_mem_cons.mpr ⟨emk_132, List.forall_mem_cons.mpr ⟨emk_133, List.forall_mem_cons.mpr ⟨emk_134, List.forall_mem_cons.mpr ⟨emk_135, List.forall_mem_cons.mpr ⟨emk_136, List.forall_mem_cons.mpr ⟨emk_137, List.forall_mem_cons.mpr ⟨emk_138, List.forall_mem_cons.mpr ⟨emk_139, fun _ h => absurd h List.not_mem_nil⟩⟩⟩⟩⟩⟩⟩⟩⟩⟩⟩⟩⟩⟩⟩⟩⟩⟩⟩⟩⟩⟩⟩⟩⟩⟩⟩⟩⟩⟩⟩⟩⟩⟩⟩⟩⟩⟩⟩⟩⟩⟩⟩⟩⟩⟩⟩⟩⟩⟩⟩⟩⟩⟩⟩⟩⟩⟩⟩⟩⟩⟩⟩⟩⟩⟩⟩⟩⟩⟩
set_option maxRecDepth 100000 in
theorem emL_2 : ∀ z ∈ ([140, 141, 142, 143, 144, 145, 146, 147, 148, 149, 150, 151, 152, 153, 154, 155, 156, 157, 158, 159, 160, 161, 162, 163, 164, 165, 166, 167, 168, 169, 170, 171, 172, 173, 174, 175, 176, 177, 178, 179, 180, 181, 182, 183, 184, 185, 186, 187, 188, 189, 190, 191, 192, 193, 194, 195, 196, 197, 198, 199, 200, 201, 202, 203, 204, 205, 206, 207, 208, 209] : List Nat), EM z := List.forall_mem_cons.mpr ⟨emk_140, List.forall_mem_cons.mpr ⟨emk_141, List.forall_mem_cons.mpr ⟨emk_142, List.forall_mem_cons.mpr ⟨emk_143, List.forall_mem_cons.mpr ⟨emk_144, List.forall_mem_cons.mpr ⟨emk_145, List.forall_mem_cons.mpr ⟨emk_146, List.forall_mem_cons.mpr ⟨emk_147, List.forall_mem_cons.mpr ⟨emk_148, List.forall_mem_cons.mpr ⟨emk_149, List.forall_mem_cons.mpr ⟨emk_150, List.forall_mem_cons.mpr ⟨emk_151, List.forall_mem_cons.mpr ⟨emk_152, List.forall_mem_cons.mpr ⟨emk_153, List.forall_mem_cons.mpr ⟨emk_154, List.forall_mem_cons.mpr ⟨emk_155, List.forall_mem_cons.mpr ⟨emk_156, List.forall_mem_cons.mpr ⟨emk_157, List.forall_mem_cons.mpr ⟨emk_158, List.forall_mem_cons.mpr ⟨emk_159, List.forall_mem_cons.mpr ⟨emk_160, List.forall_mem_cons.mpr ⟨emk_161, List.forall_mem_cons.mpr ⟨emk_162, List.forall_mem_cons.mpr ⟨emk_163, List.forall_mem_cons.mpr ⟨emk_164, List.forall_mem_cons.mpr ⟨emk_165, List.forall_mem_cons.mpr ⟨emk_166, List.forall_mem_cons.mpr ⟨emk_167, List.forall_mem_cons.mpr ⟨emk_168, List.forall_mem_cons.mpr ⟨emk_169, List.forall_mem_cons.mpr ⟨emk_170, List.forall_mem_cons.mpr ⟨emk_171, List.forall_mem_cons.mpr ⟨emk_172, List.forall_mem_cons.mpr ⟨emk_173, List.forall_mem_cons.mpr ⟨emk_174, List.forall_mem_cons.mpr ⟨emk_175, List.forall_mem_cons.mpr ⟨emk_176, List.forall_mem_cons.mpr ⟨emk_177, List.forall_mem_cons.mpr ⟨emk_178, List.forall_mem_cons.mpr ⟨emk_179, List.forall_mem_cons.mpr ⟨emk_180, List.forall_mem_cons.mpr ⟨emk_181, List.forall_mem_cons.mpr ⟨emk_182, List.forall_mem_cons.mpr ⟨emk_183, List.forall_mem_cons.mpr ⟨emk_184, List.forall_mem_cons.mpr ⟨emk_185, List.forall_mem_cons.mpr ⟨emk_186, List.forall_mem_cons.mpr ⟨emk_187, List.forall_mem_cons.mpr ⟨emk_188, List.forall_mem_cons.mpr ⟨emk_189, List.forall_mem_cons.mpr ⟨emk_190, List.forall_mem_cons.mpr ⟨emk_191, List.forall_mem_cons.mpr ⟨emk_192, List.forall_mem_cons.mpr ⟨emk_193, List.forall_mem_cons.mpr ⟨emk_194, List.forall_mem_cons.mpr ⟨emk_195, List.forall_mem_cons.mpr ⟨emk_196, List.forall_mem_cons.mpr ⟨emk_197, List.forall_mem_cons.mpr ⟨emk_198, List.forall_mem_cons.mpr ⟨emk_199, List.forall_mem_cons.mpr ⟨emk_200, List.forall_mem_cons.mpr ⟨emk_201, List.forall_mem_cons.mpr ⟨emk_202, List.forall_mem_cons.mpr ⟨emk_203, List.forall_mem_cons.mpr ⟨emk_204, List.forall_mem_cons.mpr ⟨emk_205, List.forall_mem_cons.mpr ⟨emk_206, List.forall_mem_cons.mpr ⟨emk_207, List.forall_mem_cons.mpr ⟨emk_208, List.forall_mem_cons.mpr ⟨emk_209, fun _ h => absurd h List.not_mem_nil⟩⟩⟩⟩⟩⟩⟩⟩⟩⟩⟩⟩⟩⟩⟩⟩⟩⟩⟩⟩⟩⟩⟩⟩⟩⟩⟩⟩⟩⟩⟩⟩⟩⟩⟩⟩⟩⟩⟩⟩⟩⟩⟩⟩⟩⟩⟩⟩⟩⟩⟩⟩⟩⟩⟩⟩⟩⟩⟩⟩⟩⟩⟩⟩⟩⟩⟩⟩⟩⟩
set_option maxRecDepth 100000 in
theorem emL_3 : ∀ z ∈ ([210, 211, 212, 213, 214, 215, 216, 217, 218, 219, 220, 221, 222, 223, 224, 225, 226, 227, 228, 229, 230, 231, 232, 233, 234, 235, 236, 237, 238, 239, 240, 241, 242, 243, 244, 245, 246, 247, 248, 249, 250, 251, 252, 253, 254, 255, 256, 257, 258, 259, 260, 261, 262, 263, 264, 265, 266, 267, 268, 269, 270, 271, 272, 273, 274, 275, 276, 277, 278, 279] : List Nat), EM z := List.forall_mem_cons.mpr ⟨emk_210, List.forall_mem_cons.mpr ⟨emk_211, List.forall_mem_cons.mpr ⟨emk_212, List.forall_mem_cons.mpr ⟨emk_213, List.forall_mem_cons.mpr ⟨emk_214, List.forall_mem_cons.mpr ⟨emk_215, List.forall_mem_cons.mpr ⟨emk_216, List.forall_mem_cons.mpr ⟨emk_217, List.forall_mem_cons.mpr ⟨emk_218, List.forall_mem_cons.mpr ⟨emk_219, List.forall_mem_cons.mpr ⟨emk_220, List.forall_mem_cons.mpr ⟨emk_221, List.forall_mem_cons.mpr ⟨emk_222, List.forall_mem_cons.mpr ⟨emk_223, List.forall_mem_cons.mpr ⟨emk_224, List.forall_mem_cons.mpr ⟨emk_225, List.forall_mem_cons.mpr ⟨emk_226, List.forall_mem_cons.mpr ⟨emk_227, List.forall_mem_cons.mpr ⟨emk_228, List.forall_mem_cons.mpr ⟨emk_229, List.forall_mem_cons.mpr ⟨emk_230, List.forall_mem_cons.mpr ⟨emk_231, List.forall_mem_cons.mpr ⟨emk_232, List.forall_mem_cons.mpr ⟨emk_233, List.forall_mem_cons.mpr ⟨emk_234, List.forall_mem_cons.mpr ⟨emk_235, List.forall_mem_cons.mpr ⟨emk_236, List.forall_mem_cons.mpr ⟨emk_237, List.forall_mem_cons.mpr ⟨emk_238, List.forall_mem_cons.mpr ⟨emk_239, List.forall_mem_cons.mpr ⟨emk_240, List.forall_mem_cons.mpr ⟨emk_241, List.forall_mem_cons.mpr ⟨emk_242, List.forall_mem_cons.mpr ⟨emk_243, List.forall_mem_cons.mpr ⟨emk_244, List.forall_mem_cons.mpr ⟨emk_245, List.forall_mem_cons.mpr ⟨emk_246, List.forall_mem_cons.mpr ⟨emk_247, List.forall_mem_cons.mpr ⟨emk_248, List.forall_mem_cons.mpr ⟨emk_249, List.forall_mem_cons.mpr ⟨emk_250, List.forall_mem_cons.mpr ⟨emk_251, List.forall_mem_cons.mpr ⟨emk_252, List.forall_mem_cons.mpr ⟨emk_253, List.forall_mem_cons.mpr ⟨emk_254, List.forall_mem_cons.mpr ⟨emk_255, List.forall_mem_cons.mpr ⟨emk_256, List.forall_mem_cons.mpr ⟨emk_257, List.forall_mem_cons.mpr ⟨emk_258, List.forall_mem_cons.mpr ⟨emk_259, List.forall_mem_cons.mpr ⟨emk_260, List.forall_mem_cons.mpr ⟨emk_261, List.forall_mem_cons.mpr ⟨emk_262, List.forall_mem_cons.mpr ⟨emk_263, List.forall_mem_cons.mpr ⟨emk_264, List.forall_mem_cons.mpr ⟨emk_265, List.forall_mem_cons.mpr ⟨emk_266, List.forall_mem_cons.mpr ⟨emk_267, List.forall_mem_cons.mpr ⟨emk_268, List.forall_mem_cons.mpr ⟨emk_269, List.forall_mem_cons.mpr ⟨emk_270, List.forall_mem_cons.mpr ⟨emk_271, List.forall_mem_cons.mpr ⟨emk_272, List.forall_mem_cons.mpr ⟨emk_273, List.forall_mem_cons.mpr ⟨emk_274, List.forall_mem_cons.mpr ⟨emk_275, List.forall_mem_cons.mpr ⟨emk_276, List.forall_mem_cons.mpr ⟨emk_277, List.forall_mem_cons.mpr ⟨emk_278, List.forall_mem_cons.mpr ⟨emk_279, fun _ h => absurd h List.not_mem_nil⟩⟩⟩⟩⟩⟩⟩⟩⟩⟩⟩⟩⟩⟩⟩⟩⟩⟩⟩⟩⟩⟩⟩⟩⟩⟩⟩⟩⟩⟩⟩⟩⟩⟩⟩⟩⟩⟩⟩⟩⟩⟩⟩⟩⟩⟩⟩⟩⟩⟩⟩⟩⟩⟩⟩⟩⟩⟩⟩⟩⟩⟩⟩⟩⟩⟩⟩⟩⟩⟩
set_option maxRecDepth 100000 in
theorem emL_4 : ∀ z ∈ ([280, 281, 282, 283, 284, 285, 286, 287, 288, 289, 290, 291, 292, 293, 294, 295, 296, 297, 298, 299, 300, 301, 302, 303, 304, 305, 306, 307, 308, 309, 310, 311, 312, 313, 314, 315, 316, 317, 318, 319, 320, 321, 322, 323, 324, 325, 326, 327, 328, 329, 330, 331, 332, 333, 334, 335, 336, 337, 338, 339, 340, 341, 342, 343, 344, 345, 346, 347, 348, 349] : List Nat), EM z := List.forall_mem_cons.mpr ⟨emk_280, List.forall_mem_cons.mpr ⟨emk_281, List.forall_mem_cons.mpr ⟨emk_282, List.forall_mem_cons.mpr ⟨emk_283, List.forall_mem_cons.mpr ⟨emk_284, List.forall_mem_cons.mpr ⟨emk_285, List.forall_mem_cons.mpr ⟨emk_286, List.forall_mem_cons.mpr ⟨emk_287, List.forall_mem_cons.mpr ⟨emk_288, List.forall_mem_cons.mpr ⟨emk_289, List.forall_mem_cons.mpr ⟨emk_290, List.forall_mem_cons.mpr ⟨emk_291, List.forall_mem_cons.mpr ⟨emk_292, List.forall_mem_cons.mpr ⟨emk_293, List.forall_mem_cons.mpr ⟨emk_294, List.forall_mem_cons.mpr ⟨emk_295, List.forall_mem_cons.mpr ⟨emk_296, List.forall_mem_cons.mpr ⟨emk_297, List.forall_mem_cons.mpr ⟨emk_298, List.forall_mem_cons.mpr ⟨emk_299, List.forall_mem_cons.mpr ⟨emk_300, List.forall_mem_cons.mpr ⟨emk_301, List.forall_mem_cons.mpr ⟨emk_302, List.forall_mem_cons.mpr ⟨emk_303, List.forall_mem_cons.mpr ⟨emk_304, List.forall_mem_cons.mpr ⟨emk_305, List.forall_mem_cons.mpr ⟨emk_306, List.forall_mem_cons.mpr ⟨emk_307, List.forall_mem_cons.mpr ⟨emk_308, List.forall_mem_cons.mpr ⟨emk_309, List.forall_mem_cons.mpr ⟨emk_310, List.forall_mem_cons.mpr ⟨emk_311, List.forall_mem_cons.mpr ⟨emk_312, List.forall_mem_cons.mpr ⟨emk_313, List.forall_mem_cons.mpr ⟨emk_314, List.forall_mem_cons.mpr ⟨emk_315, List.forall_mem_cons.mpr ⟨emk_316, List.forall_mem_cons.mpr ⟨emk_317, List.forall_mem_cons.mpr ⟨emk_318, List.forall_mem_cons.mpr ⟨emk_319, List.forall_mem_cons.mpr ⟨emk_320, List.forall_mem_cons.mpr ⟨emk_321, List.forall_mem_cons.mpr ⟨emk_322, List.forall_mem_cons.mpr ⟨emk_323, List.forall_mem_cons.mpr ⟨emk_324, List.forall_mem_cons.mpr ⟨emk_325, List.forall_mem_cons.mpr ⟨emk_326, List.forall_mem_cons.mpr ⟨emk_327, List.forall_mem_cons.mpr ⟨emk_328, List.forall_mem_cons.mpr ⟨emk_329, List.forall_mem_cons.mpr ⟨emk_330, List.forall_mem_cons.mpr ⟨emk_331, List.forall_mem_cons.mpr ⟨emk_332, List.forall_mem_cons.mpr ⟨emk_333, List.forall_mem_cons.mpr ⟨emk_334, List.forall_mem_cons.mpr ⟨emk_335, List.forall_mem_cons.mpr ⟨emk_336, List.forall_mem_cons.mpr ⟨emk_337, List.forall_mem_cons.mpr ⟨emk_338, List.forall_mem_cons.mpr ⟨emk_339, List.forall_mem_cons.mpr ⟨emk_340, List.forall_mem_cons.mpr ⟨emk_341, List.forall_mem_cons.mpr ⟨emk_342, List.forall_mem_cons.mpr ⟨emk_343, List.forall_mem_cons.mpr ⟨emk_344, List.forall_mem_cons.mpr ⟨emk_345, List.forall_mem_cons.mpr ⟨emk_346, List.forall_mem_cons.mpr ⟨emk_347, List.forall_mem_cons.mpr ⟨emk_348, List.forall_mem_cons.mpr ⟨emk_349, fun _ h => absurd h List.not_mem_nil⟩⟩⟩⟩⟩⟩⟩⟩⟩⟩⟩⟩⟩⟩⟩⟩⟩⟩⟩⟩⟩⟩⟩⟩⟩⟩⟩⟩⟩⟩⟩⟩⟩⟩⟩⟩⟩⟩⟩⟩⟩⟩⟩⟩⟩⟩⟩⟩⟩⟩⟩⟩⟩⟩⟩⟩⟩⟩⟩⟩⟩⟩⟩⟩⟩⟩⟩⟩⟩⟩
set_option maxRecDepth 100000 in
theorem emL_5 : ∀ z ∈ ([350, 351, 352, 353, 354, 355, 356, 357, 358, 359, 360, 361, 362, 363, 364, 365, 366, 367, 368, 369, 370, 371, 372, 373, 374, 375, 376, 377, 378, 379, 380, 381, 382, 383, 384, 385, 386, 387, 388, 389, 390, 391, 392, 393, 394, 395, 396, 397, 398, 399, 400, 401, 402, 403, 404, 405, 406, 407, 408, 409, 410, 411, 412, 413, 414, 415, 416, 417, 418, 419] : List Nat), EM z := List.forall_mem_cons.mpr ⟨emk_350, List.forall_mem_cons.mpr ⟨emk_351, List.forall_mem_cons.mpr ⟨emk_352, List.forall_mem_cons.mpr ⟨emk_353, List.forall_mem_cons.mpr ⟨emk_354, List.forall_mem_cons.mpr ⟨emk_355, List.forall_mem_cons.mpr ⟨emk_356, List.forall_mem_cons.mpr ⟨emk_357, List.forall_mem_cons.mpr ⟨emk_358, List.forall_mem_cons.mpr ⟨emk_359, List.forall_mem_cons.mpr ⟨emk_360, List.forall_mem_cons.mpr ⟨emk_361, List.forall_mem_cons.mpr ⟨emk_362, List.forall_mem_cons.mpr ⟨emk_363, List.forall_mem_cons.mpr ⟨emk_364, List.forall_mem_cons.mpr ⟨emk_365, List.forall_mem_cons.mpr ⟨emk_366, List.forall_mem_cons.mpr ⟨emk_367, List.forall_mem_cons.mpr ⟨emk_368, List.forall_mem_cons.mpr ⟨emk_369, List.forall_mem_cons.mpr ⟨emk_370, List.forall_mem_cons.mpr ⟨emk_371, List.forall_mem_cons.mpr ⟨emk_372, List.forall_mem_cons.mpr ⟨emk_373, List.forall_mem_cons.mpr ⟨emk_374, List.forall_mem_cons.mpr ⟨emk_375, List.forall_mem_cons.mpr ⟨emk_376, List.forall_mem_cons.mpr ⟨emk_377, List.forall_mem_cons.mpr ⟨emk_378, List.forall_mem_cons.mpr ⟨emk_379, List.forall_mem_cons.mpr ⟨emk_380, List.forall_mem_cons.mpr ⟨emk_381, List.forall_mem_cons.mpr ⟨emk_382, List.forall_mem_cons.mpr ⟨emk_383, List.forall_mem_cons.mpr ⟨emk_384, List.forall_mem_cons.mpr ⟨emk_385, List.forall_mem_cons.mpr ⟨emk_386, List.forall_mem_cons.mpr ⟨emk_387, List.forall_mem_cons.mpr ⟨emk_388, List.forall_mem_cons.mpr ⟨emk_389, List.forall_mem_cons.mpr ⟨emk_390, List.forall_mem_cons.mpr ⟨emk_391, List.forall_mem_cons.mpr ⟨emk_392, List.forall_mem_cons.mpr ⟨emk_393, List.forall_mem_cons.mpr ⟨emk_394, List.forall_mem_cons.mpr ⟨emk_395, List.forall_mem_cons.mpr ⟨emk_396, List.forall_mem_cons.mpr ⟨emk_397, List.forall_mem_cons.mpr ⟨emk_398, List.forall_mem_cons.mpr ⟨emk_399, List.forall_mem_cons.mpr ⟨emk_400, List.forall_mem_cons.mpr ⟨emk_401, List.forall_mem_cons.mpr ⟨emk_402, List.forall_mem_cons.mpr ⟨emk_403, List.forall_mem_cons.mpr ⟨emk_404, List.forall_mem_cons.mpr ⟨emk_405, List.forall_mem_cons.mpr ⟨emk_406, List.forall_mem_cons.mpr ⟨emk_407, List.forall_mem_cons.mpr ⟨emk_408, List.forall_mem_cons.mpr ⟨emk_409, List.forall_mem_cons.mpr ⟨emk_410, List.forall_mem_cons.mpr ⟨emk_411, List.forall_mem_cons.mpr ⟨emk_412, List.forall_mem_cons.mpr ⟨emk_413, List.forall_mem_cons.mpr ⟨emk_414, List.forall_mem_cons.mpr ⟨emk_415, List.forall_mem_cons.mpr ⟨emk_416, List.forall_mem_cons.mpr ⟨emk_417, List.forall_mem_cons.mpr ⟨emk_418, List.forall_mem_cons.mpr ⟨emk_419, fun _ h => absurd h List.not_mem_nil⟩⟩⟩⟩⟩⟩⟩⟩⟩⟩⟩⟩⟩⟩⟩⟩⟩⟩⟩⟩⟩⟩⟩⟩⟩⟩⟩⟩⟩⟩⟩⟩⟩⟩⟩⟩⟩⟩⟩⟩⟩⟩⟩⟩⟩⟩⟩⟩⟩⟩⟩⟩⟩⟩⟩⟩⟩⟩⟩⟩⟩⟩⟩⟩⟩⟩⟩⟩⟩⟩
set_option maxRecDepth 100000 in
theorem EM_ok {k : Nat} (h : k < 420) : EM k := by
  by_cases h0 : k < 70
  · exact emL_0 k (by (have h9 : k ∈ (List.range 70).drop 0 := by rw [List.mem_iff_getElem]; exact ⟨k - 0, by simp <;> omega, by simp <;> omega⟩); exact h9)
  by_cases h1 : k < 140
  · exact emL_1 k (by (have h9 : k ∈ (List.range 140).drop 70 := by rw [List.mem_iff_getElem]; exact ⟨k - 70, by simp <;> omega, by simp <;> omega⟩); exact h9)
  by_cases h2 : k < 210
  · exact emL_2 k (by (have h9 : k ∈ (List.range 210).drop 140 := by rw [List.mem_iff_getElem]; exact ⟨k - 140, by simp <;> omega, by simp <;> omega⟩); exact h9)
  by_cases h3 : k < 280
  · exact emL_3 k (by (have h9 : k ∈ (List.range 280).drop 210 := by rw [List.mem_iff_getElem]; exact ⟨k - 210, by simp <;> omega, by simp <;> omega⟩); exact h9)
  by_cases h4 : k < 350
  · exact emL_4 k (by (have h9 : k ∈ (List.range 350).drop 280 := by rw [List.mem_iff_getElem]; exact ⟨k - 280, by simp <;> omega, by simp <;> omega⟩); exact h9)
  by_cases h5 : k < 420
  · exact emL_5 k (by (have h9 : k ∈ (List.range 420).drop 350 := by rw [List.mem_iff_getElem]; exact ⟨k - 350, by simp <;> omega, by simp <;> omega⟩); exact h9)
  omega
def PM2 (z : Nat × Nat × Nat × Nat) : Prop := (z.2.2.1 = 4 → Cond.methodLink (cN (z.1 / 1000)) (z.1 % 1000) objectInit ∈ GW) ∧ (z.2.2.1 = 3 → z.1 = 2030 ∧ z.2.1 = 139) ∧ (z.2.2.1 < 3 → z.2.1 < 420 ∧ Cond.methodLink (cN (z.1 / 1000)) (z.1 % 1000) (mN z.2.1) ∈ GW)
set_option maxRecDepth 100000 in
theorem mp_13149 : PM2 (13149, 152, 2, 161) := ⟨fun q => absurd q (by decide), fun q => absurd q (by decide), fun _ => ⟨by decide, by
  show Cond.methodLink _ _ (mN 152) ∈ GW
  unfold mN
  rw [mX_152]
  exact ml_13149⟩⟩
set_option maxRecDepth 100000 in
theorem mp_11001 : PM2 (11001, 0, 4, 164) := ⟨fun _ => ml_11001, fun q => absurd q (by decide), fun q => absurd q (by decide)⟩
set_option maxRecDepth 100000 in
theorem mp_11009 : PM2 (11009, 56, 2, 169) := ⟨fun q => absurd q (by decide), fun q => absurd q (by decide), fun _ => ⟨by decide, by
  show Cond.methodLink _ _ (mN 56) ∈ GW
  unfold mN
  rw [mX_56]
  exact ml_11009⟩⟩
set_option maxRecDepth 100000 in
theorem mp_5003 : PM2 (5003, 0, 4, 172) := ⟨fun _ => ml_5003, fun q => absurd q (by decide), fun q => absurd q (by decide)⟩
set_option maxRecDepth 100000 in
theorem mp_5011 : PM2 (5011, 8, 2, 176) := ⟨fun q => absurd q (by decide), fun q => absurd q (by decide), fun _ => ⟨by decide, by
  show Cond.methodLink _ _ (mN 8) ∈ GW
  unfold mN
  rw [mX_8]
  exact ml_5011⟩⟩
set_option maxRecDepth 100000 in
theorem mp_1003 : PM2 (1003, 0, 4, 179) := ⟨fun _ => ml_1003, fun q => absurd q (by decide), fun q => absurd q (by decide)⟩
set_option maxRecDepth 100000 in
theorem mp_5016 : PM2 (5016, 103, 2, 260) := ⟨fun q => absurd q (by decide), fun q => absurd q (by decide), fun _ => ⟨by decide, by
  show Cond.methodLink _ _ (mN 103) ∈ GW
  unfold mN
  rw [mX_103]
  exact ml_5016⟩⟩
set_option maxRecDepth 100000 in
theorem mp_7003 : PM2 (7003, 0, 4, 263) := ⟨fun _ => ml_7003, fun q => absurd q (by decide), fun q => absurd q (by decide)⟩
set_option maxRecDepth 100000 in
theorem mp_7023 : PM2 (7023, 0, 2, 269) := ⟨fun q => absurd q (by decide), fun q => absurd q (by decide), fun _ => ⟨by decide, by
  show Cond.methodLink _ _ (mN 0) ∈ GW
  unfold mN
  rw [mX_0]
  exact ml_7023⟩⟩
set_option maxRecDepth 100000 in
theorem mp_3 : PM2 (3, 0, 4, 272) := ⟨fun _ => ml_3, fun q => absurd q (by decide), fun q => absurd q (by decide)⟩
set_option maxRecDepth 100000 in
theorem mp_7026 : PM2 (7026, 52, 2, 320) := ⟨fun q => absurd q (by decide), fun q => absurd q (by decide), fun _ => ⟨by decide, by
  show Cond.methodLink _ _ (mN 52) ∈ GW
  unfold mN
  rw [mX_52]
  exact ml_7026⟩⟩
set_option maxRecDepth 100000 in
theorem mp_4001 : PM2 (4001, 0, 4, 323) := ⟨fun _ => ml_4001, fun q => absurd q (by decide), fun q => absurd q (by decide)⟩
set_option maxRecDepth 100000 in
theorem mp_5027 : PM2 (5027, 105, 0, 371) := ⟨fun q => absurd q (by decide), fun q => absurd q (by decide), fun _ => ⟨by decide, by
  show Cond.methodLink _ _ (mN 105) ∈ GW
  unfold mN
  rw [mX_105]
  exact ml_5027⟩⟩
set_option maxRecDepth 100000 in
theorem mp_5031 : PM2 (5031, 72, 2, 375) := ⟨fun q => absurd q (by decide), fun q => absurd q (by decide), fun _ => ⟨by decide, by
  show Cond.methodLink _ _ (mN 72) ∈ GW
  unfold mN
  rw [mX_72]
  exact ml_5031⟩⟩
set_option maxRecDepth 100000 in
theorem mp_6003 : PM2 (6003, 0, 4, 378) := ⟨fun _ => ml_6003, fun q => absurd q (by decide), fun q => absurd q (by decide)⟩
set_option maxRecDepth 100000 in
theorem mp_6021 : PM2 (6021, 142, 2, 382) := ⟨fun q => absurd q (by decide), fun q => absurd q (by decide), fun _ => ⟨by decide, by
  show Cond.methodLink _ _ (mN 142) ∈ GW
  unfold mN
  rw [mX_142]
  exact ml_6021⟩⟩
set_option maxRecDepth 100000 in
theorem mp_10003 : PM2 (10003, 0, 4, 385) := ⟨fun _ => ml_10003, fun q => absurd q (by decide), fun q => absurd q (by decide)⟩
set_option maxRecDepth 100000 in
theorem mp_5040 : PM2 (5040, 121, 2, 506) := ⟨fun q => absurd q (by decide), fun q => absurd q (by decide), fun _ => ⟨by decide, by
  show Cond.methodLink _ _ (mN 121) ∈ GW
  unfold mN
  rw [mX_121]
  exact ml_5040⟩⟩
set_option maxRecDepth 100000 in
theorem mp_8003 : PM2 (8003, 0, 4, 509) := ⟨fun _ => ml_8003, fun q => absurd q (by decide), fun q => absurd q (by decide)⟩
set_option maxRecDepth 100000 in
theorem mp_5049 : PM2 (5049, 46, 2, 526) := ⟨fun q => absurd q (by decide), fun q => absurd q (by decide), fun _ => ⟨by decide, by
  show Cond.methodLink _ _ (mN 46) ∈ GW
  unfold mN
  rw [mX_46]
  exact ml_5049⟩⟩
set_option maxRecDepth 100000 in
theorem mp_3001 : PM2 (3001, 0, 4, 529) := ⟨fun _ => ml_3001, fun q => absurd q (by decide), fun q => absurd q (by decide)⟩
set_option maxRecDepth 100000 in
theorem mp_5056 : PM2 (5056, 17, 2, 539) := ⟨fun q => absurd q (by decide), fun q => absurd q (by decide), fun _ => ⟨by decide, by
  show Cond.methodLink _ _ (mN 17) ∈ GW
  unfold mN
  rw [mX_17]
  exact ml_5056⟩⟩
set_option maxRecDepth 100000 in
theorem mp_2003 : PM2 (2003, 0, 4, 542) := ⟨fun _ => ml_2003, fun q => absurd q (by decide), fun q => absurd q (by decide)⟩
set_option maxRecDepth 100000 in
theorem mp_2030 : PM2 (2030, 139, 3, 548) := ⟨fun q => absurd q (by decide), fun _ => ⟨rfl, rfl⟩, fun q => absurd q (by decide)⟩
set_option maxRecDepth 100000 in
theorem mp_9001 : PM2 (9001, 0, 4, 551) := ⟨fun _ => ml_9001, fun q => absurd q (by decide), fun q => absurd q (by decide)⟩
set_option maxRecDepth 100000 in
theorem mp_5061 : PM2 (5061, 57, 0, 618) := ⟨fun q => absurd q (by decide), fun q => absurd q (by decide), fun _ => ⟨by decide, by
  show Cond.methodLink _ _ (mN 57) ∈ GW
  unfold mN
  rw [mX_57]
  exact ml_5061⟩⟩
set_option maxRecDepth 100000 in
theorem mp_5064 : PM2 (5064, 73, 0, 622) := ⟨fun q => absurd q (by decide), fun q => absurd q (by decide), fun _ => ⟨by decide, by
  show Cond.methodLink _ _ (mN 73) ∈ GW
  unfold mN
  rw [mX_73]
  exact ml_5064⟩⟩
set_option maxRecDepth 100000 in
theorem mp_6024 : PM2 (6024, 9, 0, 626) := ⟨fun q => absurd q (by decide), fun q => absurd q (by decide), fun _ => ⟨by decide, by
  show Cond.methodLink _ _ (mN 9) ∈ GW
  unfold mN
  rw [mX_9]
  exact ml_6024⟩⟩
set_option maxRecDepth 100000 in
theorem mp_1022 : PM2 (1022, 10, 0, 630) := ⟨fun q => absurd q (by decide), fun q => absurd q (by decide), fun _ => ⟨by decide, by
  show Cond.methodLink _ _ (mN 10) ∈ GW
  unfold mN
  rw [mX_10]
  exact ml_1022⟩⟩
set_option maxRecDepth 100000 in
theorem mp_5065 : PM2 (5065, 104, 0, 634) := ⟨fun q => absurd q (by decide), fun q => absurd q (by decide), fun _ => ⟨by decide, by
  show Cond.methodLink _ _ (mN 104) ∈ GW
  unfold mN
  rw [mX_104]
  exact ml_5065⟩⟩
set_option maxRecDepth 100000 in
theorem mp_7029 : PM2 (7029, 1, 0, 638) := ⟨fun q => absurd q (by decide), fun q => absurd q (by decide), fun _ => ⟨by decide, by
  show Cond.methodLink _ _ (mN 1) ∈ GW
  unfold mN
  rw [mX_1]
  exact ml_7029⟩⟩
set_option maxRecDepth 100000 in
theorem mp_5066 : PM2 (5066, 18, 0, 642) := ⟨fun q => absurd q (by decide), fun q => absurd q (by decide), fun _ => ⟨by decide, by
  show Cond.methodLink _ _ (mN 18) ∈ GW
  unfold mN
  rw [mX_18]
  exact ml_5066⟩⟩
set_option maxRecDepth 100000 in
theorem mp_2031 : PM2 (2031, 140, 0, 646) := ⟨fun q => absurd q (by decide), fun q => absurd q (by decide), fun _ => ⟨by decide, by
  show Cond.methodLink _ _ (mN 140) ∈ GW
  unfold mN
  rw [mX_140]
  exact ml_2031⟩⟩
set_option maxRecDepth 100000 in
theorem mp_9023 : PM2 (9023, 141, 0, 650) := ⟨fun q => absurd q (by decide), fun q => absurd q (by decide), fun _ => ⟨by decide, by
  show Cond.methodLink _ _ (mN 141) ∈ GW
  unfold mN
  rw [mX_141]
  exact ml_9023⟩⟩
set_option maxRecDepth 100000 in
theorem mp_13247 : PM2 (13247, 180, 0, 694) := ⟨fun q => absurd q (by decide), fun q => absurd q (by decide), fun _ => ⟨by decide, by
  show Cond.methodLink _ _ (mN 180) ∈ GW
  unfold mN
  rw [mX_180]
  exact ml_13247⟩⟩
set_option maxRecDepth 100000 in
theorem mp_13251 : PM2 (13251, 181, 0, 698) := ⟨fun q => absurd q (by decide), fun q => absurd q (by decide), fun _ => ⟨by decide, by
  show Cond.methodLink _ _ (mN 181) ∈ GW
  unfold mN
  rw [mX_181]
  exact ml_13251⟩⟩
set_option maxRecDepth 100000 in
theorem mp_11193 : PM2 (11193, 57, 0, 702) := ⟨fun q => absurd q (by decide), fun q => absurd q (by decide), fun _ => ⟨by decide, by
  show Cond.methodLink _ _ (mN 57) ∈ GW
  unfold mN
  rw [mX_57]
  exact ml_11193⟩⟩
set_option maxRecDepth 100000 in
theorem mp_11080 : PM2 (11080, 211, 0, 703) := ⟨fun q => absurd q (by decide), fun q => absurd q (by decide), fun _ => ⟨by decide, by
  show Cond.methodLink _ _ (mN 211) ∈ GW
  unfold mN
  rw [mX_211]
  exact ml_11080⟩⟩
set_option maxRecDepth 100000 in
theorem mp_11274 : PM2 (11274, 59, 0, 707) := ⟨fun q => absurd q (by decide), fun q => absurd q (by decide), fun _ => ⟨by decide, by
  show Cond.methodLink _ _ (mN 59) ∈ GW
  unfold mN
  rw [mX_59]
  exact ml_11274⟩⟩
set_option maxRecDepth 100000 in
theorem mp_5087 : PM2 (5087, 74, 0, 712) := ⟨fun q => absurd q (by decide), fun q => absurd q (by decide), fun _ => ⟨by decide, by
  show Cond.methodLink _ _ (mN 74) ∈ GW
  unfold mN
  rw [mX_74]
  exact ml_5087⟩⟩
set_option maxRecDepth 100000 in
theorem mp_5099 : PM2 (5099, 77, 0, 716) := ⟨fun q => absurd q (by decide), fun q => absurd q (by decide), fun _ => ⟨by decide, by
  show Cond.methodLink _ _ (mN 77) ∈ GW
  unfold mN
  rw [mX_77]
  exact ml_5099⟩⟩
set_option maxRecDepth 100000 in
theorem mp_6048 : PM2 (6048, 143, 0, 720) := ⟨fun q => absurd q (by decide), fun q => absurd q (by decide), fun _ => ⟨by decide, by
  show Cond.methodLink _ _ (mN 143) ∈ GW
  unfold mN
  rw [mX_143]
  exact ml_6048⟩⟩
set_option maxRecDepth 100000 in
theorem mp_10043 : PM2 (10043, 373, 1, 725) := ⟨fun q => absurd q (by decide), fun q => absurd q (by decide), fun _ => ⟨by decide, by
  show Cond.methodLink _ _ (mN 373) ∈ GW
  unfold mN
  rw [mX_373]
  exact ml_10043⟩⟩
set_option maxRecDepth 100000 in
theorem mp_5103 : PM2 (5103, 122, 0, 728) := ⟨fun q => absurd q (by decide), fun q => absurd q (by decide), fun _ => ⟨by decide, by
  show Cond.methodLink _ _ (mN 122) ∈ GW
  unfold mN
  rw [mX_122]
  exact ml_5103⟩⟩
set_option maxRecDepth 100000 in
theorem mp_8042 : PM2 (8042, 144, 0, 732) := ⟨fun q => absurd q (by decide), fun q => absurd q (by decide), fun _ => ⟨by decide, by
  show Cond.methodLink _ _ (mN 144) ∈ GW
  unfold mN
  rw [mX_144]
  exact ml_8042⟩⟩
set_option maxRecDepth 100000 in
theorem mp_8059 : PM2 (8059, 145, 0, 736) := ⟨fun q => absurd q (by decide), fun q => absurd q (by decide), fun _ => ⟨by decide, by
  show Cond.methodLink _ _ (mN 145) ∈ GW
  unfold mN
  rw [mX_145]
  exact ml_8059⟩⟩
set_option maxRecDepth 100000 in
theorem mp_8063 : PM2 (8063, 13, 0, 740) := ⟨fun q => absurd q (by decide), fun q => absurd q (by decide), fun _ => ⟨by decide, by
  show Cond.methodLink _ _ (mN 13) ∈ GW
  unfold mN
  rw [mX_13]
  exact ml_8063⟩⟩
set_option maxRecDepth 100000 in
theorem mp_1057 : PM2 (1057, 373, 1, 744) := ⟨fun q => absurd q (by decide), fun q => absurd q (by decide), fun _ => ⟨by decide, by
  show Cond.methodLink _ _ (mN 373) ∈ GW
  unfold mN
  rw [mX_373]
  exact ml_1057⟩⟩
set_option maxRecDepth 100000 in
theorem mp_5112 : PM2 (5112, 65, 0, 745) := ⟨fun q => absurd q (by decide), fun q => absurd q (by decide), fun _ => ⟨by decide, by
  show Cond.methodLink _ _ (mN 65) ∈ GW
  unfold mN
  rw [mX_65]
  exact ml_5112⟩⟩
set_option maxRecDepth 100000 in
theorem mp_5151 : PM2 (5151, 78, 0, 749) := ⟨fun q => absurd q (by decide), fun q => absurd q (by decide), fun _ => ⟨by decide, by
  show Cond.methodLink _ _ (mN 78) ∈ GW
  unfold mN
  rw [mX_78]
  exact ml_5151⟩⟩
set_option maxRecDepth 100000 in
theorem mp_6058 : PM2 (6058, 150, 0, 753) := ⟨fun q => absurd q (by decide), fun q => absurd q (by decide), fun _ => ⟨by decide, by
  show Cond.methodLink _ _ (mN 150) ∈ GW
  unfold mN
  rw [mX_150]
  exact ml_6058⟩⟩
set_option maxRecDepth 100000 in
theorem mp_10087 : PM2 (10087, 377, 1, 757) := ⟨fun q => absurd q (by decide), fun q => absurd q (by decide), fun _ => ⟨by decide, by
  show Cond.methodLink _ _ (mN 377) ∈ GW
  unfold mN
  rw [mX_377]
  exact ml_10087⟩⟩
set_option maxRecDepth 100000 in
theorem mp_6065 : PM2 (6065, 79, 0, 760) := ⟨fun q => absurd q (by decide), fun q => absurd q (by decide), fun _ => ⟨by decide, by
  show Cond.methodLink _ _ (mN 79) ∈ GW
  unfold mN
  rw [mX_79]
  exact ml_6065⟩⟩
set_option maxRecDepth 100000 in
theorem mp_5154 : PM2 (5154, 123, 0, 764) := ⟨fun q => absurd q (by decide), fun q => absurd q (by decide), fun _ => ⟨by decide, by
  show Cond.methodLink _ _ (mN 123) ∈ GW
  unfold mN
  rw [mX_123]
  exact ml_5154⟩⟩
set_option maxRecDepth 100000 in
theorem mp_8075 : PM2 (8075, 81, 0, 769) := ⟨fun q => absurd q (by decide), fun q => absurd q (by decide), fun _ => ⟨by decide, by
  show Cond.methodLink _ _ (mN 81) ∈ GW
  unfold mN
  rw [mX_81]
  exact ml_8075⟩⟩
set_option maxRecDepth 100000 in
theorem mp_6072 : PM2 (6072, 144, 0, 774) := ⟨fun q => absurd q (by decide), fun q => absurd q (by decide), fun _ => ⟨by decide, by
  show Cond.methodLink _ _ (mN 144) ∈ GW
  unfold mN
  rw [mX_144]
  exact ml_6072⟩⟩
set_option maxRecDepth 100000 in
theorem mp_6079 : PM2 (6079, 146, 0, 775) := ⟨fun q => absurd q (by decide), fun q => absurd q (by decide), fun _ => ⟨by decide, by
  show Cond.methodLink _ _ (mN 146) ∈ GW
  unfold mN
  rw [mX_146]
  exact ml_6079⟩⟩
set_option maxRecDepth 100000 in
theorem mp_8080 : PM2 (8080, 94, 0, 780) := ⟨fun q => absurd q (by decide), fun q => absurd q (by decide), fun _ => ⟨by decide, by
  show Cond.methodLink _ _ (mN 94) ∈ GW
  unfold mN
  rw [mX_94]
  exact ml_8080⟩⟩
set_option maxRecDepth 100000 in
theorem mp_8084 : PM2 (8084, 125, 0, 784) := ⟨fun q => absurd q (by decide), fun q => absurd q (by decide), fun _ => ⟨by decide, by
  show Cond.methodLink _ _ (mN 125) ∈ GW
  unfold mN
  rw [mX_125]
  exact ml_8084⟩⟩
set_option maxRecDepth 100000 in
theorem mp_8091 : PM2 (8091, 126, 0, 788) := ⟨fun q => absurd q (by decide), fun q => absurd q (by decide), fun _ => ⟨by decide, by
  show Cond.methodLink _ _ (mN 126) ∈ GW
  unfold mN
  rw [mX_126]
  exact ml_8091⟩⟩
set_option maxRecDepth 100000 in
theorem mp_8095 : PM2 (8095, 127, 0, 792) := ⟨fun q => absurd q (by decide), fun q => absurd q (by decide), fun _ => ⟨by decide, by
  show Cond.methodLink _ _ (mN 127) ∈ GW
  unfold mN
  rw [mX_127]
  exact ml_8095⟩⟩
set_option maxRecDepth 100000 in
theorem mp_8128 : PM2 (8128, 377, 1, 796) := ⟨fun q => absurd q (by decide), fun q => absurd q (by decide), fun _ => ⟨by decide, by
  show Cond.methodLink _ _ (mN 377) ∈ GW
  unfold mN
  rw [mX_377]
  exact ml_8128⟩⟩
set_option maxRecDepth 100000 in
theorem mp_8137 : PM2 (8137, 128, 0, 797) := ⟨fun q => absurd q (by decide), fun q => absurd q (by decide), fun _ => ⟨by decide, by
  show Cond.methodLink _ _ (mN 128) ∈ GW
  unfold mN
  rw [mX_128]
  exact ml_8137⟩⟩
set_option maxRecDepth 100000 in
theorem mp_8141 : PM2 (8141, 129, 0, 801) := ⟨fun q => absurd q (by decide), fun q => absurd q (by decide), fun _ => ⟨by decide, by
  show Cond.methodLink _ _ (mN 129) ∈ GW
  unfold mN
  rw [mX_129]
  exact ml_8141⟩⟩
set_option maxRecDepth 100000 in
theorem mp_8099 : PM2 (8099, 130, 0, 805) := ⟨fun q => absurd q (by decide), fun q => absurd q (by decide), fun _ => ⟨by decide, by
  show Cond.methodLink _ _ (mN 130) ∈ GW
  unfold mN
  rw [mX_130]
  exact ml_8099⟩⟩
set_option maxRecDepth 100000 in
theorem mp_8145 : PM2 (8145, 106, 0, 809) := ⟨fun q => absurd q (by decide), fun q => absurd q (by decide), fun _ => ⟨by decide, by
  show Cond.methodLink _ _ (mN 106) ∈ GW
  unfold mN
  rw [mX_106]
  exact ml_8145⟩⟩
set_option maxRecDepth 100000 in
theorem mp_7040 : PM2 (7040, 53, 0, 813) := ⟨fun q => absurd q (by decide), fun q => absurd q (by decide), fun _ => ⟨by decide, by
  show Cond.methodLink _ _ (mN 53) ∈ GW
  unfold mN
  rw [mX_53]
  exact ml_7040⟩⟩
set_option maxRecDepth 100000 in
theorem mp_7049 : PM2 (7049, 5, 0, 817) := ⟨fun q => absurd q (by decide), fun q => absurd q (by decide), fun _ => ⟨by decide, by
  show Cond.methodLink _ _ (mN 5) ∈ GW
  unfold mN
  rw [mX_5]
  exact ml_7049⟩⟩
set_option maxRecDepth 100000 in
theorem mp_8151 : PM2 (8151, 151, 0, 821) := ⟨fun q => absurd q (by decide), fun q => absurd q (by decide), fun _ => ⟨by decide, by
  show Cond.methodLink _ _ (mN 151) ∈ GW
  unfold mN
  rw [mX_151]
  exact ml_8151⟩⟩
set_option maxRecDepth 100000 in
theorem mp_8155 : PM2 (8155, 90, 0, 825) := ⟨fun q => absurd q (by decide), fun q => absurd q (by decide), fun _ => ⟨by decide, by
  show Cond.methodLink _ _ (mN 90) ∈ GW
  unfold mN
  rw [mX_90]
  exact ml_8155⟩⟩
set_option maxRecDepth 100000 in
theorem mp_8103 : PM2 (8103, 80, 0, 829) := ⟨fun q => absurd q (by decide), fun q => absurd q (by decide), fun _ => ⟨by decide, by
  show Cond.methodLink _ _ (mN 80) ∈ GW
  unfold mN
  rw [mX_80]
  exact ml_8103⟩⟩
set_option maxRecDepth 100000 in
theorem mp_8107 : PM2 (8107, 124, 0, 833) := ⟨fun q => absurd q (by decide), fun q => absurd q (by decide), fun _ => ⟨by decide, by
  show Cond.methodLink _ _ (mN 124) ∈ GW
  unfold mN
  rw [mX_124]
  exact ml_8107⟩⟩
set_option maxRecDepth 100000 in
theorem mp_8116 : PM2 (8116, 78, 0, 837) := ⟨fun q => absurd q (by decide), fun q => absurd q (by decide), fun _ => ⟨by decide, by
  show Cond.methodLink _ _ (mN 78) ∈ GW
  unfold mN
  rw [mX_78]
  exact ml_8116⟩⟩
set_option maxRecDepth 100000 in
theorem mp_11278 : PM2 (11278, 60, 0, 838) := ⟨fun q => absurd q (by decide), fun q => absurd q (by decide), fun _ => ⟨by decide, by
  show Cond.methodLink _ _ (mN 60) ∈ GW
  unfold mN
  rw [mX_60]
  exact ml_11278⟩⟩
set_option maxRecDepth 100000 in
theorem mp_11282 : PM2 (11282, 61, 0, 842) := ⟨fun q => absurd q (by decide), fun q => absurd q (by decide), fun _ => ⟨by decide, by
  show Cond.methodLink _ _ (mN 61) ∈ GW
  unfold mN
  rw [mX_61]
  exact ml_11282⟩⟩
set_option maxRecDepth 100000 in
theorem mp_11286 : PM2 (11286, 62, 0, 846) := ⟨fun q => absurd q (by decide), fun q => absurd q (by decide), fun _ => ⟨by decide, by
  show Cond.methodLink _ _ (mN 62) ∈ GW
  unfold mN
  rw [mX_62]
  exact ml_11286⟩⟩
set_option maxRecDepth 100000 in
theorem mp_11289 : PM2 (11289, 63, 0, 850) := ⟨fun q => absurd q (by decide), fun q => absurd q (by decide), fun _ => ⟨by decide, by
  show Cond.methodLink _ _ (mN 63) ∈ GW
  unfold mN
  rw [mX_63]
  exact ml_11289⟩⟩
set_option maxRecDepth 100000 in
theorem mp_11292 : PM2 (11292, 64, 0, 854) := ⟨fun q => absurd q (by decide), fun q => absurd q (by decide), fun _ => ⟨by decide, by
  show Cond.methodLink _ _ (mN 64) ∈ GW
  unfold mN
  rw [mX_64]
  exact ml_11292⟩⟩
set_option maxRecDepth 100000 in
theorem mp_5131 : PM2 (5131, 87, 0, 858) := ⟨fun q => absurd q (by decide), fun q => absurd q (by decide), fun _ => ⟨by decide, by
  show Cond.methodLink _ _ (mN 87) ∈ GW
  unfold mN
  rw [mX_87]
  exact ml_5131⟩⟩
set_option maxRecDepth 100000 in
theorem mp_11295 : PM2 (11295, 86, 0, 862) := ⟨fun q => absurd q (by decide), fun q => absurd q (by decide), fun _ => ⟨by decide, by
  show Cond.methodLink _ _ (mN 86) ∈ GW
  unfold mN
  rw [mX_86]
  exact ml_11295⟩⟩
set_option maxRecDepth 100000 in
theorem mp_6126 : PM2 (6126, 75, 0, 866) := ⟨fun q => absurd q (by decide), fun q => absurd q (by decide), fun _ => ⟨by decide, by
  show Cond.methodLink _ _ (mN 75) ∈ GW
  unfold mN
  rw [mX_75]
  exact ml_6126⟩⟩
set_option maxRecDepth 100000 in
theorem mp_11038 : PM2 (11038, 74, 0, 870) := ⟨fun q => absurd q (by decide), fun q => absurd q (by decide), fun _ => ⟨by decide, by
  show Cond.methodLink _ _ (mN 74) ∈ GW
  unfold mN
  rw [mX_74]
  exact ml_11038⟩⟩
set_option maxRecDepth 100000 in
theorem mp_11298 : PM2 (11298, 15, 0, 871) := ⟨fun q => absurd q (by decide), fun q => absurd q (by decide), fun _ => ⟨by decide, by
  show Cond.methodLink _ _ (mN 15) ∈ GW
  unfold mN
  rw [mX_15]
  exact ml_11298⟩⟩
set_option maxRecDepth 100000 in
theorem mp_11301 : PM2 (11301, 16, 0, 875) := ⟨fun q => absurd q (by decide), fun q => absurd q (by decide), fun _ => ⟨by decide, by
  show Cond.methodLink _ _ (mN 16) ∈ GW
  unfold mN
  rw [mX_16]
  exact ml_11301⟩⟩
set_option maxRecDepth 100000 in
theorem mp_11150 : PM2 (11150, 105, 0, 879) := ⟨fun q => absurd q (by decide), fun q => absurd q (by decide), fun _ => ⟨by decide, by
  show Cond.methodLink _ _ (mN 105) ∈ GW
  unfold mN
  rw [mX_105]
  exact ml_11150⟩⟩
set_option maxRecDepth 100000 in
theorem mp_11304 : PM2 (11304, 6, 0, 880) := ⟨fun q => absurd q (by decide), fun q => absurd q (by decide), fun _ => ⟨by decide, by
  show Cond.methodLink _ _ (mN 6) ∈ GW
  unfold mN
  rw [mX_6]
  exact ml_11304⟩⟩
set_option maxRecDepth 100000 in
theorem mp_11307 : PM2 (11307, 7, 0, 884) := ⟨fun q => absurd q (by decide), fun q => absurd q (by decide), fun _ => ⟨by decide, by
  show Cond.methodLink _ _ (mN 7) ∈ GW
  unfold mN
  rw [mX_7]
  exact ml_11307⟩⟩
set_option maxRecDepth 100000 in
theorem mp_50 : PM2 (50, 3, 0, 888) := ⟨fun q => absurd q (by decide), fun q => absurd q (by decide), fun _ => ⟨by decide, by
  show Cond.methodLink _ _ (mN 3) ∈ GW
  unfold mN
  rw [mX_3]
  exact ml_50⟩⟩
set_option maxRecDepth 100000 in
theorem mp_11311 : PM2 (11311, 94, 0, 892) := ⟨fun q => absurd q (by decide), fun q => absurd q (by decide), fun _ => ⟨by decide, by
  show Cond.methodLink _ _ (mN 94) ∈ GW
  unfold mN
  rw [mX_94]
  exact ml_11311⟩⟩
set_option maxRecDepth 100000 in
theorem mp_11315 : PM2 (11315, 66, 0, 893) := ⟨fun q => absurd q (by decide), fun q => absurd q (by decide), fun _ => ⟨by decide, by
  show Cond.methodLink _ _ (mN 66) ∈ GW
  unfold mN
  rw [mX_66]
  exact ml_11315⟩⟩
set_option maxRecDepth 100000 in
theorem mp_5160 : PM2 (5160, 91, 0, 897) := ⟨fun q => absurd q (by decide), fun q => absurd q (by decide), fun _ => ⟨by decide, by
  show Cond.methodLink _ _ (mN 91) ∈ GW
  unfold mN
  rw [mX_91]
  exact ml_5160⟩⟩
set_option maxRecDepth 100000 in
theorem mp_6157 : PM2 (6157, 92, 0, 901) := ⟨fun q => absurd q (by decide), fun q => absurd q (by decide), fun _ => ⟨by decide, by
  show Cond.methodLink _ _ (mN 92) ∈ GW
  unfold mN
  rw [mX_92]
  exact ml_6157⟩⟩
set_option maxRecDepth 100000 in
theorem mp_5170 : PM2 (5170, 131, 0, 905) := ⟨fun q => absurd q (by decide), fun q => absurd q (by decide), fun _ => ⟨by decide, by
  show Cond.methodLink _ _ (mN 131) ∈ GW
  unfold mN
  rw [mX_131]
  exact ml_5170⟩⟩
set_option maxRecDepth 100000 in
theorem mp_8159 : PM2 (8159, 135, 0, 909) := ⟨fun q => absurd q (by decide), fun q => absurd q (by decide), fun _ => ⟨by decide, by
  show Cond.methodLink _ _ (mN 135) ∈ GW
  unfold mN
  rw [mX_135]
  exact ml_8159⟩⟩
set_option maxRecDepth 100000 in
theorem mp_8195 : PM2 (8195, 137, 0, 913) := ⟨fun q => absurd q (by decide), fun q => absurd q (by decide), fun _ => ⟨by decide, by
  show Cond.methodLink _ _ (mN 137) ∈ GW
  unfold mN
  rw [mX_137]
  exact ml_8195⟩⟩
set_option maxRecDepth 100000 in
theorem mp_8199 : PM2 (8199, 138, 0, 917) := ⟨fun q => absurd q (by decide), fun q => absurd q (by decide), fun _ => ⟨by decide, by
  show Cond.methodLink _ _ (mN 138) ∈ GW
  unfold mN
  rw [mX_138]
  exact ml_8199⟩⟩
set_option maxRecDepth 100000 in
theorem mp_8203 : PM2 (8203, 373, 1, 921) := ⟨fun q => absurd q (by decide), fun q => absurd q (by decide), fun _ => ⟨by decide, by
  show Cond.methodLink _ _ (mN 373) ∈ GW
  unfold mN
  rw [mX_373]
  exact ml_8203⟩⟩
set_option maxRecDepth 100000 in
theorem mp_8207 : PM2 (8207, 136, 1, 922) := ⟨fun q => absurd q (by decide), fun q => absurd q (by decide), fun _ => ⟨by decide, by
  show Cond.methodLink _ _ (mN 136) ∈ GW
  unfold mN
  rw [mX_136]
  exact ml_8207⟩⟩
set_option maxRecDepth 100000 in
theorem mp_8172 : PM2 (8172, 132, 0, 925) := ⟨fun q => absurd q (by decide), fun q => absurd q (by decide), fun _ => ⟨by decide, by
  show Cond.methodLink _ _ (mN 132) ∈ GW
  unfold mN
  rw [mX_132]
  exact ml_8172⟩⟩
set_option maxRecDepth 100000 in
theorem mp_8183 : PM2 (8183, 133, 0, 929) := ⟨fun q => absurd q (by decide), fun q => absurd q (by decide), fun _ => ⟨by decide, by
  show Cond.methodLink _ _ (mN 133) ∈ GW
  unfold mN
  rw [mX_133]
  exact ml_8183⟩⟩
set_option maxRecDepth 100000 in
theorem mp_8187 : PM2 (8187, 134, 0, 933) := ⟨fun q => absurd q (by decide), fun q => absurd q (by decide), fun _ => ⟨by decide, by
  show Cond.methodLink _ _ (mN 134) ∈ GW
  unfold mN
  rw [mX_134]
  exact ml_8187⟩⟩
set_option maxRecDepth 100000 in
theorem mp_8191 : PM2 (8191, 146, 0, 937) := ⟨fun q => absurd q (by decide), fun q => absurd q (by decide), fun _ => ⟨by decide, by
  show Cond.methodLink _ _ (mN 146) ∈ GW
  unfold mN
  rw [mX_146]
  exact ml_8191⟩⟩
set_option maxRecDepth 100000 in
theorem mp_8179 : PM2 (8179, 95, 0, 938) := ⟨fun q => absurd q (by decide), fun q => absurd q (by decide), fun _ => ⟨by decide, by
  show Cond.methodLink _ _ (mN 95) ∈ GW
  unfold mN
  rw [mX_95]
  exact ml_8179⟩⟩
set_option maxRecDepth 100000 in
theorem mp_5174 : PM2 (5174, 71, 0, 942) := ⟨fun q => absurd q (by decide), fun q => absurd q (by decide), fun _ => ⟨by decide, by
  show Cond.methodLink _ _ (mN 71) ∈ GW
  unfold mN
  rw [mX_71]
  exact ml_5174⟩⟩
set_option maxRecDepth 100000 in
theorem mp_5228 : PM2 (5228, 97, 0, 947) := ⟨fun q => absurd q (by decide), fun q => absurd q (by decide), fun _ => ⟨by decide, by
  show Cond.methodLink _ _ (mN 97) ∈ GW
  unfold mN
  rw [mX_97]
  exact ml_5228⟩⟩
set_option maxRecDepth 100000 in
theorem mp_6182 : PM2 (6182, 148, 0, 951) := ⟨fun q => absurd q (by decide), fun q => absurd q (by decide), fun _ => ⟨by decide, by
  show Cond.methodLink _ _ (mN 148) ∈ GW
  unfold mN
  rw [mX_148]
  exact ml_6182⟩⟩
set_option maxRecDepth 100000 in
theorem mp_5232 : PM2 (5232, 108, 0, 955) := ⟨fun q => absurd q (by decide), fun q => absurd q (by decide), fun _ => ⟨by decide, by
  show Cond.methodLink _ _ (mN 108) ∈ GW
  unfold mN
  rw [mX_108]
  exact ml_5232⟩⟩
set_option maxRecDepth 100000 in
theorem mp_7053 : PM2 (7053, 375, 1, 959) := ⟨fun q => absurd q (by decide), fun q => absurd q (by decide), fun _ => ⟨by decide, by
  show Cond.methodLink _ _ (mN 375) ∈ GW
  unfold mN
  rw [mX_375]
  exact ml_7053⟩⟩
set_option maxRecDepth 100000 in
theorem mp_7059 : PM2 (7059, 107, 0, 962) := ⟨fun q => absurd q (by decide), fun q => absurd q (by decide), fun _ => ⟨by decide, by
  show Cond.methodLink _ _ (mN 107) ∈ GW
  unfold mN
  rw [mX_107]
  exact ml_7059⟩⟩
set_option maxRecDepth 100000 in
theorem mp_5239 : PM2 (5239, 47, 0, 967) := ⟨fun q => absurd q (by decide), fun q => absurd q (by decide), fun _ => ⟨by decide, by
  show Cond.methodLink _ _ (mN 47) ∈ GW
  unfold mN
  rw [mX_47]
  exact ml_5239⟩⟩
set_option maxRecDepth 100000 in
theorem mp_3017 : PM2 (3017, 74, 0, 971) := ⟨fun q => absurd q (by decide), fun q => absurd q (by decide), fun _ => ⟨by decide, by
  show Cond.methodLink _ _ (mN 74) ∈ GW
  unfold mN
  rw [mX_74]
  exact ml_3017⟩⟩
set_option maxRecDepth 100000 in
theorem mp_3036 : PM2 (3036, 82, 0, 972) := ⟨fun q => absurd q (by decide), fun q => absurd q (by decide), fun _ => ⟨by decide, by
  show Cond.methodLink _ _ (mN 82) ∈ GW
  unfold mN
  rw [mX_82]
  exact ml_3036⟩⟩
set_option maxRecDepth 100000 in
theorem mp_6083 : PM2 (6083, 81, 0, 976) := ⟨fun q => absurd q (by decide), fun q => absurd q (by decide), fun _ => ⟨by decide, by
  show Cond.methodLink _ _ (mN 81) ∈ GW
  unfold mN
  rw [mX_81]
  exact ml_6083⟩⟩
set_option maxRecDepth 100000 in
theorem mp_3045 : PM2 (3045, 49, 1, 977) := ⟨fun q => absurd q (by decide), fun q => absurd q (by decide), fun _ => ⟨by decide, by
  show Cond.methodLink _ _ (mN 49) ∈ GW
  unfold mN
  rw [mX_49]
  exact ml_3045⟩⟩
set_option maxRecDepth 100000 in
theorem mp_3066 : PM2 (3066, 11, 0, 980) := ⟨fun q => absurd q (by decide), fun q => absurd q (by decide), fun _ => ⟨by decide, by
  show Cond.methodLink _ _ (mN 11) ∈ GW
  unfold mN
  rw [mX_11]
  exact ml_3066⟩⟩
set_option maxRecDepth 100000 in
theorem mp_3070 : PM2 (3070, 13, 0, 984) := ⟨fun q => absurd q (by decide), fun q => absurd q (by decide), fun _ => ⟨by decide, by
  show Cond.methodLink _ _ (mN 13) ∈ GW
  unfold mN
  rw [mX_13]
  exact ml_3070⟩⟩
set_option maxRecDepth 100000 in
theorem mp_3052 : PM2 (3052, 377, 1, 985) := ⟨fun q => absurd q (by decide), fun q => absurd q (by decide), fun _ => ⟨by decide, by
  show Cond.methodLink _ _ (mN 377) ∈ GW
  unfold mN
  rw [mX_377]
  exact ml_3052⟩⟩
set_option maxRecDepth 100000 in
theorem mp_3058 : PM2 (3058, 50, 0, 986) := ⟨fun q => absurd q (by decide), fun q => absurd q (by decide), fun _ => ⟨by decide, by
  show Cond.methodLink _ _ (mN 50) ∈ GW
  unfold mN
  rw [mX_50]
  exact ml_3058⟩⟩
set_option maxRecDepth 100000 in
theorem mp_3085 : PM2 (3085, 106, 0, 990) := ⟨fun q => absurd q (by decide), fun q => absurd q (by decide), fun _ => ⟨by decide, by
  show Cond.methodLink _ _ (mN 106) ∈ GW
  unfold mN
  rw [mX_106]
  exact ml_3085⟩⟩
set_option maxRecDepth 100000 in
theorem mp_3062 : PM2 (3062, 51, 0, 991) := ⟨fun q => absurd q (by decide), fun q => absurd q (by decide), fun _ => ⟨by decide, by
  show Cond.methodLink _ _ (mN 51) ∈ GW
  unfold mN
  rw [mX_51]
  exact ml_3062⟩⟩
set_option maxRecDepth 100000 in
theorem mp_3090 : PM2 (3090, 151, 0, 995) := ⟨fun q => absurd q (by decide), fun q => absurd q (by decide), fun _ => ⟨by decide, by
  show Cond.methodLink _ _ (mN 151) ∈ GW
  unfold mN
  rw [mX_151]
  exact ml_3090⟩⟩
set_option maxRecDepth 100000 in
theorem mp_3094 : PM2 (3094, 90, 0, 996) := ⟨fun q => absurd q (by decide), fun q => absurd q (by decide), fun _ => ⟨by decide, by
  show Cond.methodLink _ _ (mN 90) ∈ GW
  unfold mN
  rw [mX_90]
  exact ml_3094⟩⟩
set_option maxRecDepth 100000 in
theorem mp_3098 : PM2 (3098, 80, 0, 997) := ⟨fun q => absurd q (by decide), fun q => absurd q (by decide), fun _ => ⟨by decide, by
  show Cond.methodLink _ _ (mN 80) ∈ GW
  unfold mN
  rw [mX_80]
  exact ml_3098⟩⟩
set_option maxRecDepth 100000 in
theorem mp_5243 : PM2 (5243, 48, 0, 998) := ⟨fun q => absurd q (by decide), fun q => absurd q (by decide), fun _ => ⟨by decide, by
  show Cond.methodLink _ _ (mN 48) ∈ GW
  unfold mN
  rw [mX_48]
  exact ml_5243⟩⟩
set_option maxRecDepth 100000 in
theorem mp_5247 : PM2 (5247, 99, 0, 1002) := ⟨fun q => absurd q (by decide), fun q => absurd q (by decide), fun _ => ⟨by decide, by
  show Cond.methodLink _ _ (mN 99) ∈ GW
  unfold mN
  rw [mX_99]
  exact ml_5247⟩⟩
set_option maxRecDepth 100000 in
theorem mp_6194 : PM2 (6194, 100, 0, 1006) := ⟨fun q => absurd q (by decide), fun q => absurd q (by decide), fun _ => ⟨by decide, by
  show Cond.methodLink _ _ (mN 100) ∈ GW
  unfold mN
  rw [mX_100]
  exact ml_6194⟩⟩
set_option maxRecDepth 100000 in
theorem mp_6197 : PM2 (6197, 101, 0, 1010) := ⟨fun q => absurd q (by decide), fun q => absurd q (by decide), fun _ => ⟨by decide, by
  show Cond.methodLink _ _ (mN 101) ∈ GW
  unfold mN
  rw [mX_101]
  exact ml_6197⟩⟩
set_option maxRecDepth 100000 in
theorem mp_6208 : PM2 (6208, 377, 1, 1014) := ⟨fun q => absurd q (by decide), fun q => absurd q (by decide), fun _ => ⟨by decide, by
  show Cond.methodLink _ _ (mN 377) ∈ GW
  unfold mN
  rw [mX_377]
  exact ml_6208⟩⟩
set_option maxRecDepth 100000 in
theorem mp_6212 : PM2 (6212, 375, 1, 1015) := ⟨fun q => absurd q (by decide), fun q => absurd q (by decide), fun _ => ⟨by decide, by
  show Cond.methodLink _ _ (mN 375) ∈ GW
  unfold mN
  rw [mX_375]
  exact ml_6212⟩⟩
set_option maxRecDepth 100000 in
theorem mp_6215 : PM2 (6215, 11, 0, 1016) := ⟨fun q => absurd q (by decide), fun q => absurd q (by decide), fun _ => ⟨by decide, by
  show Cond.methodLink _ _ (mN 11) ∈ GW
  unfold mN
  rw [mX_11]
  exact ml_6215⟩⟩
set_option maxRecDepth 100000 in
theorem mp_6201 : PM2 (6201, 102, 0, 1017) := ⟨fun q => absurd q (by decide), fun q => absurd q (by decide), fun _ => ⟨by decide, by
  show Cond.methodLink _ _ (mN 102) ∈ GW
  unfold mN
  rw [mX_102]
  exact ml_6201⟩⟩
set_option maxRecDepth 100000 in
theorem mp_6191 : PM2 (6191, 149, 0, 1021) := ⟨fun q => absurd q (by decide), fun q => absurd q (by decide), fun _ => ⟨by decide, by
  show Cond.methodLink _ _ (mN 149) ∈ GW
  unfold mN
  rw [mX_149]
  exact ml_6191⟩⟩
set_option maxRecDepth 100000 in
theorem mp_11318 : PM2 (11318, 96, 0, 1025) := ⟨fun q => absurd q (by decide), fun q => absurd q (by decide), fun _ => ⟨by decide, by
  show Cond.methodLink _ _ (mN 96) ∈ GW
  unfold mN
  rw [mX_96]
  exact ml_11318⟩⟩
set_option maxRecDepth 100000 in
theorem mp_11321 : PM2 (11321, 67, 0, 1029) := ⟨fun q => absurd q (by decide), fun q => absurd q (by decide), fun _ => ⟨by decide, by
  show Cond.methodLink _ _ (mN 67) ∈ GW
  unfold mN
  rw [mX_67]
  exact ml_11321⟩⟩
set_option maxRecDepth 100000 in
theorem mp_5177 : PM2 (5177, 109, 0, 1033) := ⟨fun q => absurd q (by decide), fun q => absurd q (by decide), fun _ => ⟨by decide, by
  show Cond.methodLink _ _ (mN 109) ∈ GW
  unfold mN
  rw [mX_109]
  exact ml_5177⟩⟩
set_option maxRecDepth 100000 in
theorem mp_7071 : PM2 (7071, 108, 0, 1037) := ⟨fun q => absurd q (by decide), fun q => absurd q (by decide), fun _ => ⟨by decide, by
  show Cond.methodLink _ _ (mN 108) ∈ GW
  unfold mN
  rw [mX_108]
  exact ml_7071⟩⟩
set_option maxRecDepth 100000 in
theorem mp_5181 : PM2 (5181, 107, 0, 1038) := ⟨fun q => absurd q (by decide), fun q => absurd q (by decide), fun _ => ⟨by decide, by
  show Cond.methodLink _ _ (mN 107) ∈ GW
  unfold mN
  rw [mX_107]
  exact ml_5181⟩⟩
set_option maxRecDepth 100000 in
theorem mp_5188 : PM2 (5188, 98, 0, 1039) := ⟨fun q => absurd q (by decide), fun q => absurd q (by decide), fun _ => ⟨by decide, by
  show Cond.methodLink _ _ (mN 98) ∈ GW
  unfold mN
  rw [mX_98]
  exact ml_5188⟩⟩
set_option maxRecDepth 100000 in
theorem mp_11324 : PM2 (11324, 110, 0, 1043) := ⟨fun q => absurd q (by decide), fun q => absurd q (by decide), fun _ => ⟨by decide, by
  show Cond.methodLink _ _ (mN 110) ∈ GW
  unfold mN
  rw [mX_110]
  exact ml_11324⟩⟩
set_option maxRecDepth 100000 in
theorem mp_11327 : PM2 (11327, 111, 0, 1047) := ⟨fun q => absurd q (by decide), fun q => absurd q (by decide), fun _ => ⟨by decide, by
  show Cond.methodLink _ _ (mN 111) ∈ GW
  unfold mN
  rw [mX_111]
  exact ml_11327⟩⟩
set_option maxRecDepth 100000 in
theorem mp_7095 : PM2 (7095, 105, 0, 1051) := ⟨fun q => absurd q (by decide), fun q => absurd q (by decide), fun _ => ⟨by decide, by
  show Cond.methodLink _ _ (mN 105) ∈ GW
  unfold mN
  rw [mX_105]
  exact ml_7095⟩⟩
set_option maxRecDepth 100000 in
theorem mp_11331 : PM2 (11331, 114, 0, 1052) := ⟨fun q => absurd q (by decide), fun q => absurd q (by decide), fun _ => ⟨by decide, by
  show Cond.methodLink _ _ (mN 114) ∈ GW
  unfold mN
  rw [mX_114]
  exact ml_11331⟩⟩
set_option maxRecDepth 100000 in
theorem mp_7115 : PM2 (7115, 112, 0, 1056) := ⟨fun q => absurd q (by decide), fun q => absurd q (by decide), fun _ => ⟨by decide, by
  show Cond.methodLink _ _ (mN 112) ∈ GW
  unfold mN
  rw [mX_112]
  exact ml_7115⟩⟩
set_option maxRecDepth 100000 in
theorem mp_7102 : PM2 (7102, 54, 0, 1060) := ⟨fun q => absurd q (by decide), fun q => absurd q (by decide), fun _ => ⟨by decide, by
  show Cond.methodLink _ _ (mN 54) ∈ GW
  unfold mN
  rw [mX_54]
  exact ml_7102⟩⟩
set_option maxRecDepth 100000 in
theorem mp_7107 : PM2 (7107, 371, 1, 1064) := ⟨fun q => absurd q (by decide), fun q => absurd q (by decide), fun _ => ⟨by decide, by
  show Cond.methodLink _ _ (mN 371) ∈ GW
  unfold mN
  rw [mX_371]
  exact ml_7107⟩⟩
set_option maxRecDepth 100000 in
theorem mp_7111 : PM2 (7111, 2, 0, 1067) := ⟨fun q => absurd q (by decide), fun q => absurd q (by decide), fun _ => ⟨by decide, by
  show Cond.methodLink _ _ (mN 2) ∈ GW
  unfold mN
  rw [mX_2]
  exact ml_7111⟩⟩
set_option maxRecDepth 100000 in
theorem mp_7119 : PM2 (7119, 4, 0, 1071) := ⟨fun q => absurd q (by decide), fun q => absurd q (by decide), fun _ => ⟨by decide, by
  show Cond.methodLink _ _ (mN 4) ∈ GW
  unfold mN
  rw [mX_4]
  exact ml_7119⟩⟩
set_option maxRecDepth 100000 in
theorem mp_11335 : PM2 (11335, 115, 0, 1075) := ⟨fun q => absurd q (by decide), fun q => absurd q (by decide), fun _ => ⟨by decide, by
  show Cond.methodLink _ _ (mN 115) ∈ GW
  unfold mN
  rw [mX_115]
  exact ml_11335⟩⟩
set_option maxRecDepth 100000 in
theorem mp_7125 : PM2 (7125, 372, 1, 1080) := ⟨fun q => absurd q (by decide), fun q => absurd q (by decide), fun _ => ⟨by decide, by
  show Cond.methodLink _ _ (mN 372) ∈ GW
  unfold mN
  rw [mX_372]
  exact ml_7125⟩⟩
set_option maxRecDepth 100000 in
theorem mp_7128 : PM2 (7128, 116, 0, 1083) := ⟨fun q => absurd q (by decide), fun q => absurd q (by decide), fun _ => ⟨by decide, by
  show Cond.methodLink _ _ (mN 116) ∈ GW
  unfold mN
  rw [mX_116]
  exact ml_7128⟩⟩
set_option maxRecDepth 100000 in
theorem mp_11338 : PM2 (11338, 68, 0, 1087) := ⟨fun q => absurd q (by decide), fun q => absurd q (by decide), fun _ => ⟨by decide, by
  show Cond.methodLink _ _ (mN 68) ∈ GW
  unfold mN
  rw [mX_68]
  exact ml_11338⟩⟩
set_option maxRecDepth 100000 in
theorem mp_5192 : PM2 (5192, 88, 0, 1091) := ⟨fun q => absurd q (by decide), fun q => absurd q (by decide), fun _ => ⟨by decide, by
  show Cond.methodLink _ _ (mN 88) ∈ GW
  unfold mN
  rw [mX_88]
  exact ml_5192⟩⟩
set_option maxRecDepth 100000 in
theorem mp_6134 : PM2 (6134, 12, 0, 1095) := ⟨fun q => absurd q (by decide), fun q => absurd q (by decide), fun _ => ⟨by decide, by
  show Cond.methodLink _ _ (mN 12) ∈ GW
  unfold mN
  rw [mX_12]
  exact ml_6134⟩⟩
set_option maxRecDepth 100000 in
theorem mp_5195 : PM2 (5195, 120, 0, 1099) := ⟨fun q => absurd q (by decide), fun q => absurd q (by decide), fun _ => ⟨by decide, by
  show Cond.methodLink _ _ (mN 120) ∈ GW
  unfold mN
  rw [mX_120]
  exact ml_5195⟩⟩
set_option maxRecDepth 100000 in
theorem mp_7144 : PM2 (7144, 12, 0, 1103) := ⟨fun q => absurd q (by decide), fun q => absurd q (by decide), fun _ => ⟨by decide, by
  show Cond.methodLink _ _ (mN 12) ∈ GW
  unfold mN
  rw [mX_12]
  exact ml_7144⟩⟩
set_option maxRecDepth 100000 in
theorem mp_5201 : PM2 (5201, 69, 1, 1104) := ⟨fun q => absurd q (by decide), fun q => absurd q (by decide), fun _ => ⟨by decide, by
  show Cond.methodLink _ _ (mN 69) ∈ GW
  unfold mN
  rw [mX_69]
  exact ml_5201⟩⟩
set_option maxRecDepth 100000 in
theorem mp_5212 : PM2 (5212, 377, 1, 1107) := ⟨fun q => absurd q (by decide), fun q => absurd q (by decide), fun _ => ⟨by decide, by
  show Cond.methodLink _ _ (mN 377) ∈ GW
  unfold mN
  rw [mX_377]
  exact ml_5212⟩⟩
set_option maxRecDepth 100000 in
theorem mp_5218 : PM2 (5218, 375, 1, 1108) := ⟨fun q => absurd q (by decide), fun q => absurd q (by decide), fun _ => ⟨by decide, by
  show Cond.methodLink _ _ (mN 375) ∈ GW
  unfold mN
  rw [mX_375]
  exact ml_5218⟩⟩
set_option maxRecDepth 100000 in
theorem mp_5208 : PM2 (5208, 119, 0, 1109) := ⟨fun q => absurd q (by decide), fun q => absurd q (by decide), fun _ => ⟨by decide, by
  show Cond.methodLink _ _ (mN 119) ∈ GW
  unfold mN
  rw [mX_119]
  exact ml_5208⟩⟩
set_option maxRecDepth 100000 in
theorem mp_7131 : PM2 (7131, 118, 1, 1113) := ⟨fun q => absurd q (by decide), fun q => absurd q (by decide), fun _ => ⟨by decide, by
  show Cond.methodLink _ _ (mN 118) ∈ GW
  unfold mN
  rw [mX_118]
  exact ml_7131⟩⟩
set_option maxRecDepth 100000 in
theorem mp_7141 : PM2 (7141, 370, 1, 1116) := ⟨fun q => absurd q (by decide), fun q => absurd q (by decide), fun _ => ⟨by decide, by
  show Cond.methodLink _ _ (mN 370) ∈ GW
  unfold mN
  rw [mX_370]
  exact ml_7141⟩⟩
set_option maxRecDepth 100000 in
theorem mp_14143 : PM2 (14143, 371, 1, 1119) := ⟨fun q => absurd q (by decide), fun q => absurd q (by decide), fun _ => ⟨by decide, by
  show Cond.methodLink _ _ (mN 371) ∈ GW
  unfold mN
  rw [mX_371]
  exact ml_14143⟩⟩
set_option maxRecDepth 100000 in
theorem mp_11341 : PM2 (11341, 31, 0, 1120) := ⟨fun q => absurd q (by decide), fun q => absurd q (by decide), fun _ => ⟨by decide, by
  show Cond.methodLink _ _ (mN 31) ∈ GW
  unfold mN
  rw [mX_31]
  exact ml_11341⟩⟩
set_option maxRecDepth 100000 in
theorem mp_2086 : PM2 (2086, 24, 0, 1124) := ⟨fun q => absurd q (by decide), fun q => absurd q (by decide), fun _ => ⟨by decide, by
  show Cond.methodLink _ _ (mN 24) ∈ GW
  unfold mN
  rw [mX_24]
  exact ml_2086⟩⟩
set_option maxRecDepth 100000 in
theorem mp_11344 : PM2 (11344, 32, 0, 1128) := ⟨fun q => absurd q (by decide), fun q => absurd q (by decide), fun _ => ⟨by decide, by
  show Cond.methodLink _ _ (mN 32) ∈ GW
  unfold mN
  rw [mX_32]
  exact ml_11344⟩⟩
set_option maxRecDepth 100000 in
theorem mp_11347 : PM2 (11347, 30, 0, 1132) := ⟨fun q => absurd q (by decide), fun q => absurd q (by decide), fun _ => ⟨by decide, by
  show Cond.methodLink _ _ (mN 30) ∈ GW
  unfold mN
  rw [mX_30]
  exact ml_11347⟩⟩
set_option maxRecDepth 100000 in
theorem mp_2051 : PM2 (2051, 19, 0, 1136) := ⟨fun q => absurd q (by decide), fun q => absurd q (by decide), fun _ => ⟨by decide, by
  show Cond.methodLink _ _ (mN 19) ∈ GW
  unfold mN
  rw [mX_19]
  exact ml_2051⟩⟩
set_option maxRecDepth 100000 in
theorem mp_2069 : PM2 (2069, 28, 0, 1140) := ⟨fun q => absurd q (by decide), fun q => absurd q (by decide), fun _ => ⟨by decide, by
  show Cond.methodLink _ _ (mN 28) ∈ GW
  unfold mN
  rw [mX_28]
  exact ml_2069⟩⟩
set_option maxRecDepth 100000 in
theorem mp_2107 : PM2 (2107, 74, 0, 1144) := ⟨fun q => absurd q (by decide), fun q => absurd q (by decide), fun _ => ⟨by decide, by
  show Cond.methodLink _ _ (mN 74) ∈ GW
  unfold mN
  rw [mX_74]
  exact ml_2107⟩⟩
set_option maxRecDepth 100000 in
theorem mp_2133 : PM2 (2133, 371, 1, 1146) := ⟨fun q => absurd q (by decide), fun q => absurd q (by decide), fun _ => ⟨by decide, by
  show Cond.methodLink _ _ (mN 371) ∈ GW
  unfold mN
  rw [mX_371]
  exact ml_2133⟩⟩
set_option maxRecDepth 100000 in
theorem mp_2058 : PM2 (2058, 25, 0, 1147) := ⟨fun q => absurd q (by decide), fun q => absurd q (by decide), fun _ => ⟨by decide, by
  show Cond.methodLink _ _ (mN 25) ∈ GW
  unfold mN
  rw [mX_25]
  exact ml_2058⟩⟩
set_option maxRecDepth 100000 in
theorem mp_2090 : PM2 (2090, 23, 0, 1151) := ⟨fun q => absurd q (by decide), fun q => absurd q (by decide), fun _ => ⟨by decide, by
  show Cond.methodLink _ _ (mN 23) ∈ GW
  unfold mN
  rw [mX_23]
  exact ml_2090⟩⟩
set_option maxRecDepth 100000 in
theorem mp_2045 : PM2 (2045, 105, 0, 1155) := ⟨fun q => absurd q (by decide), fun q => absurd q (by decide), fun _ => ⟨by decide, by
  show Cond.methodLink _ _ (mN 105) ∈ GW
  unfold mN
  rw [mX_105]
  exact ml_2045⟩⟩
set_option maxRecDepth 100000 in
theorem mp_2080 : PM2 (2080, 2, 0, 1156) := ⟨fun q => absurd q (by decide), fun q => absurd q (by decide), fun _ => ⟨by decide, by
  show Cond.methodLink _ _ (mN 2) ∈ GW
  unfold mN
  rw [mX_2]
  exact ml_2080⟩⟩
set_option maxRecDepth 100000 in
theorem mp_2093 : PM2 (2093, 376, 1, 1157) := ⟨fun q => absurd q (by decide), fun q => absurd q (by decide), fun _ => ⟨by decide, by
  show Cond.methodLink _ _ (mN 376) ∈ GW
  unfold mN
  rw [mX_376]
  exact ml_2093⟩⟩
set_option maxRecDepth 100000 in
theorem mp_2101 : PM2 (2101, 374, 1, 1161) := ⟨fun q => absurd q (by decide), fun q => absurd q (by decide), fun _ => ⟨by decide, by
  show Cond.methodLink _ _ (mN 374) ∈ GW
  unfold mN
  rw [mX_374]
  exact ml_2101⟩⟩
set_option maxRecDepth 100000 in
theorem mp_2062 : PM2 (2062, 27, 0, 1165) := ⟨fun q => absurd q (by decide), fun q => absurd q (by decide), fun _ => ⟨by decide, by
  show Cond.methodLink _ _ (mN 27) ∈ GW
  unfold mN
  rw [mX_27]
  exact ml_2062⟩⟩
set_option maxRecDepth 100000 in
theorem mp_2118 : PM2 (2118, 20, 0, 1169) := ⟨fun q => absurd q (by decide), fun q => absurd q (by decide), fun _ => ⟨by decide, by
  show Cond.methodLink _ _ (mN 20) ∈ GW
  unfold mN
  rw [mX_20]
  exact ml_2118⟩⟩
set_option maxRecDepth 100000 in
theorem mp_2125 : PM2 (2125, 21, 0, 1173) := ⟨fun q => absurd q (by decide), fun q => absurd q (by decide), fun _ => ⟨by decide, by
  show Cond.methodLink _ _ (mN 21) ∈ GW
  unfold mN
  rw [mX_21]
  exact ml_2125⟩⟩
set_option maxRecDepth 100000 in
theorem mp_2128 : PM2 (2128, 26, 0, 1177) := ⟨fun q => absurd q (by decide), fun q => absurd q (by decide), fun _ => ⟨by decide, by
  show Cond.methodLink _ _ (mN 26) ∈ GW
  unfold mN
  rw [mX_26]
  exact ml_2128⟩⟩
set_option maxRecDepth 100000 in
theorem mp_11350 : PM2 (11350, 33, 0, 1181) := ⟨fun q => absurd q (by decide), fun q => absurd q (by decide), fun _ => ⟨by decide, by
  show Cond.methodLink _ _ (mN 33) ∈ GW
  unfold mN
  rw [mX_33]
  exact ml_11350⟩⟩
set_option maxRecDepth 100000 in
theorem mp_11353 : PM2 (11353, 70, 0, 1185) := ⟨fun q => absurd q (by decide), fun q => absurd q (by decide), fun _ => ⟨by decide, by
  show Cond.methodLink _ _ (mN 70) ∈ GW
  unfold mN
  rw [mX_70]
  exact ml_11353⟩⟩
set_option maxRecDepth 100000 in
theorem mp_5221 : PM2 (5221, 35, 0, 1189) := ⟨fun q => absurd q (by decide), fun q => absurd q (by decide), fun _ => ⟨by decide, by
  show Cond.methodLink _ _ (mN 35) ∈ GW
  unfold mN
  rw [mX_35]
  exact ml_5221⟩⟩
set_option maxRecDepth 100000 in
theorem mp_5224 : PM2 (5224, 89, 0, 1193) := ⟨fun q => absurd q (by decide), fun q => absurd q (by decide), fun _ => ⟨by decide, by
  show Cond.methodLink _ _ (mN 89) ∈ GW
  unfold mN
  rw [mX_89]
  exact ml_5224⟩⟩
set_option maxRecDepth 100000 in
theorem mp_11356 : PM2 (11356, 36, 0, 1197) := ⟨fun q => absurd q (by decide), fun q => absurd q (by decide), fun _ => ⟨by decide, by
  show Cond.methodLink _ _ (mN 36) ∈ GW
  unfold mN
  rw [mX_36]
  exact ml_11356⟩⟩
set_option maxRecDepth 100000 in
theorem mp_11359 : PM2 (11359, 38, 0, 1201) := ⟨fun q => absurd q (by decide), fun q => absurd q (by decide), fun _ => ⟨by decide, by
  show Cond.methodLink _ _ (mN 38) ∈ GW
  unfold mN
  rw [mX_38]
  exact ml_11359⟩⟩
set_option maxRecDepth 100000 in
theorem mp_2142 : PM2 (2142, 37, 0, 1205) := ⟨fun q => absurd q (by decide), fun q => absurd q (by decide), fun _ => ⟨by decide, by
  show Cond.methodLink _ _ (mN 37) ∈ GW
  unfold mN
  rw [mX_37]
  exact ml_2142⟩⟩
set_option maxRecDepth 100000 in
theorem mp_2146 : PM2 (2146, 39, 0, 1209) := ⟨fun q => absurd q (by decide), fun q => absurd q (by decide), fun _ => ⟨by decide, by
  show Cond.methodLink _ _ (mN 39) ∈ GW
  unfold mN
  rw [mX_39]
  exact ml_2146⟩⟩
set_option maxRecDepth 100000 in
theorem mp_2159 : PM2 (2159, 4, 0, 1213) := ⟨fun q => absurd q (by decide), fun q => absurd q (by decide), fun _ => ⟨by decide, by
  show Cond.methodLink _ _ (mN 4) ∈ GW
  unfold mN
  rw [mX_4]
  exact ml_2159⟩⟩
set_option maxRecDepth 100000 in
theorem mp_2150 : PM2 (2150, 40, 0, 1214) := ⟨fun q => absurd q (by decide), fun q => absurd q (by decide), fun _ => ⟨by decide, by
  show Cond.methodLink _ _ (mN 40) ∈ GW
  unfold mN
  rw [mX_40]
  exact ml_2150⟩⟩
set_option maxRecDepth 100000 in
theorem mp_2169 : PM2 (2169, 41, 0, 1218) := ⟨fun q => absurd q (by decide), fun q => absurd q (by decide), fun _ => ⟨by decide, by
  show Cond.methodLink _ _ (mN 41) ∈ GW
  unfold mN
  rw [mX_41]
  exact ml_2169⟩⟩
set_option maxRecDepth 100000 in
theorem mp_2180 : PM2 (2180, 378, 1, 1222) := ⟨fun q => absurd q (by decide), fun q => absurd q (by decide), fun _ => ⟨by decide, by
  show Cond.methodLink _ _ (mN 378) ∈ GW
  unfold mN
  rw [mX_378]
  exact ml_2180⟩⟩
set_option maxRecDepth 100000 in
theorem mp_2173 : PM2 (2173, 42, 0, 1225) := ⟨fun q => absurd q (by decide), fun q => absurd q (by decide), fun _ => ⟨by decide, by
  show Cond.methodLink _ _ (mN 42) ∈ GW
  unfold mN
  rw [mX_42]
  exact ml_2173⟩⟩
set_option maxRecDepth 100000 in
theorem mp_2177 : PM2 (2177, 44, 0, 1229) := ⟨fun q => absurd q (by decide), fun q => absurd q (by decide), fun _ => ⟨by decide, by
  show Cond.methodLink _ _ (mN 44) ∈ GW
  unfold mN
  rw [mX_44]
  exact ml_2177⟩⟩
set_option maxRecDepth 100000 in
theorem mp_2183 : PM2 (2183, 43, 0, 1233) := ⟨fun q => absurd q (by decide), fun q => absurd q (by decide), fun _ => ⟨by decide, by
  show Cond.methodLink _ _ (mN 43) ∈ GW
  unfold mN
  rw [mX_43]
  exact ml_2183⟩⟩
set_option maxRecDepth 100000 in
theorem mp_2190 : PM2 (2190, 45, 0, 1237) := ⟨fun q => absurd q (by decide), fun q => absurd q (by decide), fun _ => ⟨by decide, by
  show Cond.methodLink _ _ (mN 45) ∈ GW
  unfold mN
  rw [mX_45]
  exact ml_2190⟩⟩
set_option maxRecDepth 100000 in
theorem mp_2153 : PM2 (2153, 141, 0, 1241) := ⟨fun q => absurd q (by decide), fun q => absurd q (by decide), fun _ => ⟨by decide, by
  show Cond.methodLink _ _ (mN 141) ∈ GW
  unfold mN
  rw [mX_141]
  exact ml_2153⟩⟩
set_option maxRecDepth 100000 in
theorem mp_11362 : PM2 (11362, 71, 0, 1242) := ⟨fun q => absurd q (by decide), fun q => absurd q (by decide), fun _ => ⟨by decide, by
  show Cond.methodLink _ _ (mN 71) ∈ GW
  unfold mN
  rw [mX_71]
  exact ml_11362⟩⟩
set_option maxRecDepth 100000 in
theorem mp_13255 : PM2 (13255, 182, 0, 1243) := ⟨fun q => absurd q (by decide), fun q => absurd q (by decide), fun _ => ⟨by decide, by
  show Cond.methodLink _ _ (mN 182) ∈ GW
  unfold mN
  rw [mX_182]
  exact ml_13255⟩⟩
set_option maxRecDepth 100000 in
theorem mp_13272 : PM2 (13272, 187, 0, 1247) := ⟨fun q => absurd q (by decide), fun q => absurd q (by decide), fun _ => ⟨by decide, by
  show Cond.methodLink _ _ (mN 187) ∈ GW
  unfold mN
  rw [mX_187]
  exact ml_13272⟩⟩
set_option maxRecDepth 100000 in
theorem mp_11091 : PM2 (11091, 75, 0, 1251) := ⟨fun q => absurd q (by decide), fun q => absurd q (by decide), fun _ => ⟨by decide, by
  show Cond.methodLink _ _ (mN 75) ∈ GW
  unfold mN
  rw [mX_75]
  exact ml_11091⟩⟩
set_option maxRecDepth 100000 in
theorem mp_13291 : PM2 (13291, 193, 0, 1252) := ⟨fun q => absurd q (by decide), fun q => absurd q (by decide), fun _ => ⟨by decide, by
  show Cond.methodLink _ _ (mN 193) ∈ GW
  unfold mN
  rw [mX_193]
  exact ml_13291⟩⟩
set_option maxRecDepth 100000 in
theorem mp_13310 : PM2 (13310, 199, 0, 1256) := ⟨fun q => absurd q (by decide), fun q => absurd q (by decide), fun _ => ⟨by decide, by
  show Cond.methodLink _ _ (mN 199) ∈ GW
  unfold mN
  rw [mX_199]
  exact ml_13310⟩⟩
set_option maxRecDepth 100000 in
theorem mp_13153 : PM2 (13153, 379, 1, 1260) := ⟨fun q => absurd q (by decide), fun q => absurd q (by decide), fun _ => ⟨by decide, by
  show Cond.methodLink _ _ (mN 379) ∈ GW
  unfold mN
  rw [mX_379]
  exact ml_13153⟩⟩
set_option maxRecDepth 100000 in
theorem mp_13007 : PM2 (13007, 153, 0, 1266) := ⟨fun q => absurd q (by decide), fun q => absurd q (by decide), fun _ => ⟨by decide, by
  show Cond.methodLink _ _ (mN 153) ∈ GW
  unfold mN
  rw [mX_153]
  exact ml_13007⟩⟩
set_option maxRecDepth 100000 in
theorem mp_11023 : PM2 (11023, 204, 1, 1270) := ⟨fun q => absurd q (by decide), fun q => absurd q (by decide), fun _ => ⟨by decide, by
  show Cond.methodLink _ _ (mN 204) ∈ GW
  unfold mN
  rw [mX_204]
  exact ml_11023⟩⟩
set_option maxRecDepth 100000 in
theorem mp_11059 : PM2 (11059, 203, 1, 1273) := ⟨fun q => absurd q (by decide), fun q => absurd q (by decide), fun _ => ⟨by decide, by
  show Cond.methodLink _ _ (mN 203) ∈ GW
  unfold mN
  rw [mX_203]
  exact ml_11059⟩⟩
set_option maxRecDepth 100000 in
theorem mp_11027 : PM2 (11027, 205, 1, 1276) := ⟨fun q => absurd q (by decide), fun q => absurd q (by decide), fun _ => ⟨by decide, by
  show Cond.methodLink _ _ (mN 205) ∈ GW
  unfold mN
  rw [mX_205]
  exact ml_11027⟩⟩
set_option maxRecDepth 100000 in
theorem mp_11030 : PM2 (11030, 200, 1, 1279) := ⟨fun q => absurd q (by decide), fun q => absurd q (by decide), fun _ => ⟨by decide, by
  show Cond.methodLink _ _ (mN 200) ∈ GW
  unfold mN
  rw [mX_200]
  exact ml_11030⟩⟩
set_option maxRecDepth 100000 in
theorem mp_11044 : PM2 (11044, 11, 0, 1350) := ⟨fun q => absurd q (by decide), fun q => absurd q (by decide), fun _ => ⟨by decide, by
  show Cond.methodLink _ _ (mN 11) ∈ GW
  unfold mN
  rw [mX_11]
  exact ml_11044⟩⟩
set_option maxRecDepth 100000 in
theorem mp_11049 : PM2 (11049, 208, 1, 1351) := ⟨fun q => absurd q (by decide), fun q => absurd q (by decide), fun _ => ⟨by decide, by
  show Cond.methodLink _ _ (mN 208) ∈ GW
  unfold mN
  rw [mX_208]
  exact ml_11049⟩⟩
set_option maxRecDepth 100000 in
theorem mp_11052 : PM2 (11052, 373, 1, 1354) := ⟨fun q => absurd q (by decide), fun q => absurd q (by decide), fun _ => ⟨by decide, by
  show Cond.methodLink _ _ (mN 373) ∈ GW
  unfold mN
  rw [mX_373]
  exact ml_11052⟩⟩
set_option maxRecDepth 100000 in
theorem mp_11063 : PM2 (11063, 201, 1, 1356) := ⟨fun q => absurd q (by decide), fun q => absurd q (by decide), fun _ => ⟨by decide, by
  show Cond.methodLink _ _ (mN 201) ∈ GW
  unfold mN
  rw [mX_201]
  exact ml_11063⟩⟩
set_option maxRecDepth 100000 in
theorem mp_11070 : PM2 (11070, 58, 0, 1375) := ⟨fun q => absurd q (by decide), fun q => absurd q (by decide), fun _ => ⟨by decide, by
  show Cond.methodLink _ _ (mN 58) ∈ GW
  unfold mN
  rw [mX_58]
  exact ml_11070⟩⟩
set_option maxRecDepth 100000 in
theorem mp_5073 : PM2 (5073, 19, 0, 1379) := ⟨fun q => absurd q (by decide), fun q => absurd q (by decide), fun _ => ⟨by decide, by
  show Cond.methodLink _ _ (mN 19) ∈ GW
  unfold mN
  rw [mX_19]
  exact ml_5073⟩⟩
set_option maxRecDepth 100000 in
theorem mp_5083 : PM2 (5083, 76, 0, 1380) := ⟨fun q => absurd q (by decide), fun q => absurd q (by decide), fun _ => ⟨by decide, by
  show Cond.methodLink _ _ (mN 76) ∈ GW
  unfold mN
  rw [mX_76]
  exact ml_5083⟩⟩
set_option maxRecDepth 100000 in
theorem mp_5091 : PM2 (5091, 84, 0, 1384) := ⟨fun q => absurd q (by decide), fun q => absurd q (by decide), fun _ => ⟨by decide, by
  show Cond.methodLink _ _ (mN 84) ∈ GW
  unfold mN
  rw [mX_84]
  exact ml_5091⟩⟩
set_option maxRecDepth 100000 in
theorem mp_6087 : PM2 (6087, 373, 1, 1388) := ⟨fun q => absurd q (by decide), fun q => absurd q (by decide), fun _ => ⟨by decide, by
  show Cond.methodLink _ _ (mN 373) ∈ GW
  unfold mN
  rw [mX_373]
  exact ml_6087⟩⟩
set_option maxRecDepth 100000 in
theorem mp_6096 : PM2 (6096, 85, 0, 1389) := ⟨fun q => absurd q (by decide), fun q => absurd q (by decide), fun _ => ⟨by decide, by
  show Cond.methodLink _ _ (mN 85) ∈ GW
  unfold mN
  rw [mX_85]
  exact ml_6096⟩⟩
set_option maxRecDepth 100000 in
theorem mp_6112 : PM2 (6112, 2, 0, 1393) := ⟨fun q => absurd q (by decide), fun q => absurd q (by decide), fun _ => ⟨by decide, by
  show Cond.methodLink _ _ (mN 2) ∈ GW
  unfold mN
  rw [mX_2]
  exact ml_6112⟩⟩
set_option maxRecDepth 100000 in
theorem mp_6119 : PM2 (6119, 147, 0, 1394) := ⟨fun q => absurd q (by decide), fun q => absurd q (by decide), fun _ => ⟨by decide, by
  show Cond.methodLink _ _ (mN 147) ∈ GW
  unfold mN
  rw [mX_147]
  exact ml_6119⟩⟩
set_option maxRecDepth 100000 in
theorem mp_6100 : PM2 (6100, 3, 0, 1398) := ⟨fun q => absurd q (by decide), fun q => absurd q (by decide), fun _ => ⟨by decide, by
  show Cond.methodLink _ _ (mN 3) ∈ GW
  unfold mN
  rw [mX_3]
  exact ml_6100⟩⟩
set_option maxRecDepth 100000 in
theorem mp_6105 : PM2 (6105, 10, 0, 1399) := ⟨fun q => absurd q (by decide), fun q => absurd q (by decide), fun _ => ⟨by decide, by
  show Cond.methodLink _ _ (mN 10) ∈ GW
  unfold mN
  rw [mX_10]
  exact ml_6105⟩⟩
set_option maxRecDepth 100000 in
theorem mp_11073 : PM2 (11073, 202, 1, 1400) := ⟨fun q => absurd q (by decide), fun q => absurd q (by decide), fun _ => ⟨by decide, by
  show Cond.methodLink _ _ (mN 202) ∈ GW
  unfold mN
  rw [mX_202]
  exact ml_11073⟩⟩
set_option maxRecDepth 100000 in
theorem mp_11076 : PM2 (11076, 210, 0, 1419) := ⟨fun q => absurd q (by decide), fun q => absurd q (by decide), fun _ => ⟨by decide, by
  show Cond.methodLink _ _ (mN 210) ∈ GW
  unfold mN
  rw [mX_210]
  exact ml_11076⟩⟩
set_option maxRecDepth 100000 in
theorem mp_13162 : PM2 (13162, 380, 1, 1423) := ⟨fun q => absurd q (by decide), fun q => absurd q (by decide), fun _ => ⟨by decide, by
  show Cond.methodLink _ _ (mN 380) ∈ GW
  unfold mN
  rw [mX_380]
  exact ml_13162⟩⟩
set_option maxRecDepth 100000 in
theorem mp_13019 : PM2 (13019, 154, 0, 1426) := ⟨fun q => absurd q (by decide), fun q => absurd q (by decide), fun _ => ⟨by decide, by
  show Cond.methodLink _ _ (mN 154) ∈ GW
  unfold mN
  rw [mX_154]
  exact ml_13019⟩⟩
set_option maxRecDepth 100000 in
theorem mp_13166 : PM2 (13166, 381, 1, 1430) := ⟨fun q => absurd q (by decide), fun q => absurd q (by decide), fun _ => ⟨by decide, by
  show Cond.methodLink _ _ (mN 381) ∈ GW
  unfold mN
  rw [mX_381]
  exact ml_13166⟩⟩
set_option maxRecDepth 100000 in
theorem mp_13023 : PM2 (13023, 155, 0, 1433) := ⟨fun q => absurd q (by decide), fun q => absurd q (by decide), fun _ => ⟨by decide, by
  show Cond.methodLink _ _ (mN 155) ∈ GW
  unfold mN
  rw [mX_155]
  exact ml_13023⟩⟩
set_option maxRecDepth 100000 in
theorem mp_13170 : PM2 (13170, 382, 1, 1437) := ⟨fun q => absurd q (by decide), fun q => absurd q (by decide), fun _ => ⟨by decide, by
  show Cond.methodLink _ _ (mN 382) ∈ GW
  unfold mN
  rw [mX_382]
  exact ml_13170⟩⟩
set_option maxRecDepth 100000 in
theorem mp_13027 : PM2 (13027, 156, 0, 1440) := ⟨fun q => absurd q (by decide), fun q => absurd q (by decide), fun _ => ⟨by decide, by
  show Cond.methodLink _ _ (mN 156) ∈ GW
  unfold mN
  rw [mX_156]
  exact ml_13027⟩⟩
set_option maxRecDepth 100000 in
theorem mp_13173 : PM2 (13173, 383, 1, 1444) := ⟨fun q => absurd q (by decide), fun q => absurd q (by decide), fun _ => ⟨by decide, by
  show Cond.methodLink _ _ (mN 383) ∈ GW
  unfold mN
  rw [mX_383]
  exact ml_13173⟩⟩
set_option maxRecDepth 100000 in
theorem mp_13030 : PM2 (13030, 157, 0, 1447) := ⟨fun q => absurd q (by decide), fun q => absurd q (by decide), fun _ => ⟨by decide, by
  show Cond.methodLink _ _ (mN 157) ∈ GW
  unfold mN
  rw [mX_157]
  exact ml_13030⟩⟩
set_option maxRecDepth 100000 in
theorem mp_11084 : PM2 (11084, 206, 1, 1451) := ⟨fun q => absurd q (by decide), fun q => absurd q (by decide), fun _ => ⟨by decide, by
  show Cond.methodLink _ _ (mN 206) ∈ GW
  unfold mN
  rw [mX_206]
  exact ml_11084⟩⟩
set_option maxRecDepth 100000 in
theorem mp_13176 : PM2 (13176, 384, 1, 1454) := ⟨fun q => absurd q (by decide), fun q => absurd q (by decide), fun _ => ⟨by decide, by
  show Cond.methodLink _ _ (mN 384) ∈ GW
  unfold mN
  rw [mX_384]
  exact ml_13176⟩⟩
set_option maxRecDepth 100000 in
theorem mp_13033 : PM2 (13033, 158, 0, 1457) := ⟨fun q => absurd q (by decide), fun q => absurd q (by decide), fun _ => ⟨by decide, by
  show Cond.methodLink _ _ (mN 158) ∈ GW
  unfold mN
  rw [mX_158]
  exact ml_13033⟩⟩
set_option maxRecDepth 100000 in
theorem mp_11087 : PM2 (11087, 76, 0, 1461) := ⟨fun q => absurd q (by decide), fun q => absurd q (by decide), fun _ => ⟨by decide, by
  show Cond.methodLink _ _ (mN 76) ∈ GW
  unfold mN
  rw [mX_76]
  exact ml_11087⟩⟩
set_option maxRecDepth 100000 in
theorem mp_13179 : PM2 (13179, 385, 1, 1462) := ⟨fun q => absurd q (by decide), fun q => absurd q (by decide), fun _ => ⟨by decide, by
  show Cond.methodLink _ _ (mN 385) ∈ GW
  unfold mN
  rw [mX_385]
  exact ml_13179⟩⟩
set_option maxRecDepth 100000 in
theorem mp_13036 : PM2 (13036, 159, 0, 1465) := ⟨fun q => absurd q (by decide), fun q => absurd q (by decide), fun _ => ⟨by decide, by
  show Cond.methodLink _ _ (mN 159) ∈ GW
  unfold mN
  rw [mX_159]
  exact ml_13036⟩⟩
set_option maxRecDepth 100000 in
theorem mp_11112 : PM2 (11112, 14, 0, 1470) := ⟨fun q => absurd q (by decide), fun q => absurd q (by decide), fun _ => ⟨by decide, by
  show Cond.methodLink _ _ (mN 14) ∈ GW
  unfold mN
  rw [mX_14]
  exact ml_11112⟩⟩
set_option maxRecDepth 100000 in
theorem mp_13183 : PM2 (13183, 386, 1, 1474) := ⟨fun q => absurd q (by decide), fun q => absurd q (by decide), fun _ => ⟨by decide, by
  show Cond.methodLink _ _ (mN 386) ∈ GW
  unfold mN
  rw [mX_386]
  exact ml_13183⟩⟩
set_option maxRecDepth 100000 in
theorem mp_13040 : PM2 (13040, 160, 0, 1477) := ⟨fun q => absurd q (by decide), fun q => absurd q (by decide), fun _ => ⟨by decide, by
  show Cond.methodLink _ _ (mN 160) ∈ GW
  unfold mN
  rw [mX_160]
  exact ml_13040⟩⟩
set_option maxRecDepth 100000 in
theorem mp_13187 : PM2 (13187, 387, 1, 1481) := ⟨fun q => absurd q (by decide), fun q => absurd q (by decide), fun _ => ⟨by decide, by
  show Cond.methodLink _ _ (mN 387) ∈ GW
  unfold mN
  rw [mX_387]
  exact ml_13187⟩⟩
set_option maxRecDepth 100000 in
theorem mp_13044 : PM2 (13044, 161, 0, 1484) := ⟨fun q => absurd q (by decide), fun q => absurd q (by decide), fun _ => ⟨by decide, by
  show Cond.methodLink _ _ (mN 161) ∈ GW
  unfold mN
  rw [mX_161]
  exact ml_13044⟩⟩
set_option maxRecDepth 100000 in
theorem mp_13191 : PM2 (13191, 388, 1, 1488) := ⟨fun q => absurd q (by decide), fun q => absurd q (by decide), fun _ => ⟨by decide, by
  show Cond.methodLink _ _ (mN 388) ∈ GW
  unfold mN
  rw [mX_388]
  exact ml_13191⟩⟩
set_option maxRecDepth 100000 in
theorem mp_13048 : PM2 (13048, 162, 0, 1491) := ⟨fun q => absurd q (by decide), fun q => absurd q (by decide), fun _ => ⟨by decide, by
  show Cond.methodLink _ _ (mN 162) ∈ GW
  unfold mN
  rw [mX_162]
  exact ml_13048⟩⟩
set_option maxRecDepth 100000 in
theorem mp_13194 : PM2 (13194, 389, 1, 1495) := ⟨fun q => absurd q (by decide), fun q => absurd q (by decide), fun _ => ⟨by decide, by
  show Cond.methodLink _ _ (mN 389) ∈ GW
  unfold mN
  rw [mX_389]
  exact ml_13194⟩⟩
set_option maxRecDepth 100000 in
theorem mp_13051 : PM2 (13051, 163, 0, 1498) := ⟨fun q => absurd q (by decide), fun q => absurd q (by decide), fun _ => ⟨by decide, by
  show Cond.methodLink _ _ (mN 163) ∈ GW
  unfold mN
  rw [mX_163]
  exact ml_13051⟩⟩
set_option maxRecDepth 100000 in
theorem mp_13197 : PM2 (13197, 390, 1, 1502) := ⟨fun q => absurd q (by decide), fun q => absurd q (by decide), fun _ => ⟨by decide, by
  show Cond.methodLink _ _ (mN 390) ∈ GW
  unfold mN
  rw [mX_390]
  exact ml_13197⟩⟩
set_option maxRecDepth 100000 in
theorem mp_13054 : PM2 (13054, 164, 0, 1505) := ⟨fun q => absurd q (by decide), fun q => absurd q (by decide), fun _ => ⟨by decide, by
  show Cond.methodLink _ _ (mN 164) ∈ GW
  unfold mN
  rw [mX_164]
  exact ml_13054⟩⟩
set_option maxRecDepth 100000 in
theorem mp_13200 : PM2 (13200, 391, 1, 1509) := ⟨fun q => absurd q (by decide), fun q => absurd q (by decide), fun _ => ⟨by decide, by
  show Cond.methodLink _ _ (mN 391) ∈ GW
  unfold mN
  rw [mX_391]
  exact ml_13200⟩⟩
set_option maxRecDepth 100000 in
theorem mp_13057 : PM2 (13057, 165, 0, 1512) := ⟨fun q => absurd q (by decide), fun q => absurd q (by decide), fun _ => ⟨by decide, by
  show Cond.methodLink _ _ (mN 165) ∈ GW
  unfold mN
  rw [mX_165]
  exact ml_13057⟩⟩
set_option maxRecDepth 100000 in
theorem mp_13203 : PM2 (13203, 392, 1, 1516) := ⟨fun q => absurd q (by decide), fun q => absurd q (by decide), fun _ => ⟨by decide, by
  show Cond.methodLink _ _ (mN 392) ∈ GW
  unfold mN
  rw [mX_392]
  exact ml_13203⟩⟩
set_option maxRecDepth 100000 in
theorem mp_13060 : PM2 (13060, 166, 0, 1519) := ⟨fun q => absurd q (by decide), fun q => absurd q (by decide), fun _ => ⟨by decide, by
  show Cond.methodLink _ _ (mN 166) ∈ GW
  unfold mN
  rw [mX_166]
  exact ml_13060⟩⟩
set_option maxRecDepth 100000 in
theorem mp_11115 : PM2 (11115, 93, 0, 1523) := ⟨fun q => absurd q (by decide), fun q => absurd q (by decide), fun _ => ⟨by decide, by
  show Cond.methodLink _ _ (mN 93) ∈ GW
  unfold mN
  rw [mX_93]
  exact ml_11115⟩⟩
set_option maxRecDepth 100000 in
theorem mp_13207 : PM2 (13207, 393, 1, 1527) := ⟨fun q => absurd q (by decide), fun q => absurd q (by decide), fun _ => ⟨by decide, by
  show Cond.methodLink _ _ (mN 393) ∈ GW
  unfold mN
  rw [mX_393]
  exact ml_13207⟩⟩
set_option maxRecDepth 100000 in
theorem mp_13064 : PM2 (13064, 167, 0, 1530) := ⟨fun q => absurd q (by decide), fun q => absurd q (by decide), fun _ => ⟨by decide, by
  show Cond.methodLink _ _ (mN 167) ∈ GW
  unfold mN
  rw [mX_167]
  exact ml_13064⟩⟩
set_option maxRecDepth 100000 in
theorem mp_11119 : PM2 (11119, 209, 0, 1534) := ⟨fun q => absurd q (by decide), fun q => absurd q (by decide), fun _ => ⟨by decide, by
  show Cond.methodLink _ _ (mN 209) ∈ GW
  unfold mN
  rw [mX_209]
  exact ml_11119⟩⟩
set_option maxRecDepth 100000 in
theorem mp_11270 : PM2 (11270, 107, 0, 1538) := ⟨fun q => absurd q (by decide), fun q => absurd q (by decide), fun _ => ⟨by decide, by
  show Cond.methodLink _ _ (mN 107) ∈ GW
  unfold mN
  rw [mX_107]
  exact ml_11270⟩⟩
set_option maxRecDepth 100000 in
theorem mp_13210 : PM2 (13210, 394, 1, 1540) := ⟨fun q => absurd q (by decide), fun q => absurd q (by decide), fun _ => ⟨by decide, by
  show Cond.methodLink _ _ (mN 394) ∈ GW
  unfold mN
  rw [mX_394]
  exact ml_13210⟩⟩
set_option maxRecDepth 100000 in
theorem mp_13067 : PM2 (13067, 168, 0, 1543) := ⟨fun q => absurd q (by decide), fun q => absurd q (by decide), fun _ => ⟨by decide, by
  show Cond.methodLink _ _ (mN 168) ∈ GW
  unfold mN
  rw [mX_168]
  exact ml_13067⟩⟩
set_option maxRecDepth 100000 in
theorem mp_13213 : PM2 (13213, 395, 1, 1547) := ⟨fun q => absurd q (by decide), fun q => absurd q (by decide), fun _ => ⟨by decide, by
  show Cond.methodLink _ _ (mN 395) ∈ GW
  unfold mN
  rw [mX_395]
  exact ml_13213⟩⟩
set_option maxRecDepth 100000 in
theorem mp_13070 : PM2 (13070, 169, 0, 1550) := ⟨fun q => absurd q (by decide), fun q => absurd q (by decide), fun _ => ⟨by decide, by
  show Cond.methodLink _ _ (mN 169) ∈ GW
  unfold mN
  rw [mX_169]
  exact ml_13070⟩⟩
set_option maxRecDepth 100000 in
theorem mp_13217 : PM2 (13217, 396, 1, 1554) := ⟨fun q => absurd q (by decide), fun q => absurd q (by decide), fun _ => ⟨by decide, by
  show Cond.methodLink _ _ (mN 396) ∈ GW
  unfold mN
  rw [mX_396]
  exact ml_13217⟩⟩
set_option maxRecDepth 100000 in
theorem mp_13074 : PM2 (13074, 170, 0, 1557) := ⟨fun q => absurd q (by decide), fun q => absurd q (by decide), fun _ => ⟨by decide, by
  show Cond.methodLink _ _ (mN 170) ∈ GW
  unfold mN
  rw [mX_170]
  exact ml_13074⟩⟩
set_option maxRecDepth 100000 in
theorem mp_11145 : PM2 (11145, 113, 0, 1561) := ⟨fun q => absurd q (by decide), fun q => absurd q (by decide), fun _ => ⟨by decide, by
  show Cond.methodLink _ _ (mN 113) ∈ GW
  unfold mN
  rw [mX_113]
  exact ml_11145⟩⟩
set_option maxRecDepth 100000 in
theorem mp_13220 : PM2 (13220, 397, 1, 1565) := ⟨fun q => absurd q (by decide), fun q => absurd q (by decide), fun _ => ⟨by decide, by
  show Cond.methodLink _ _ (mN 397) ∈ GW
  unfold mN
  rw [mX_397]
  exact ml_13220⟩⟩
set_option maxRecDepth 100000 in
theorem mp_13077 : PM2 (13077, 171, 0, 1568) := ⟨fun q => absurd q (by decide), fun q => absurd q (by decide), fun _ => ⟨by decide, by
  show Cond.methodLink _ _ (mN 171) ∈ GW
  unfold mN
  rw [mX_171]
  exact ml_13077⟩⟩
set_option maxRecDepth 100000 in
theorem mp_11154 : PM2 (11154, 2, 0, 1572) := ⟨fun q => absurd q (by decide), fun q => absurd q (by decide), fun _ => ⟨by decide, by
  show Cond.methodLink _ _ (mN 2) ∈ GW
  unfold mN
  rw [mX_2]
  exact ml_11154⟩⟩
set_option maxRecDepth 100000 in
theorem mp_13223 : PM2 (13223, 398, 1, 1573) := ⟨fun q => absurd q (by decide), fun q => absurd q (by decide), fun _ => ⟨by decide, by
  show Cond.methodLink _ _ (mN 398) ∈ GW
  unfold mN
  rw [mX_398]
  exact ml_13223⟩⟩
set_option maxRecDepth 100000 in
theorem mp_13080 : PM2 (13080, 172, 0, 1576) := ⟨fun q => absurd q (by decide), fun q => absurd q (by decide), fun _ => ⟨by decide, by
  show Cond.methodLink _ _ (mN 172) ∈ GW
  unfold mN
  rw [mX_172]
  exact ml_13080⟩⟩
set_option maxRecDepth 100000 in
theorem mp_11157 : PM2 (11157, 117, 0, 1580) := ⟨fun q => absurd q (by decide), fun q => absurd q (by decide), fun _ => ⟨by decide, by
  show Cond.methodLink _ _ (mN 117) ∈ GW
  unfold mN
  rw [mX_117]
  exact ml_11157⟩⟩
set_option maxRecDepth 100000 in
theorem mp_7135 : PM2 (7135, 374, 1, 1584) := ⟨fun q => absurd q (by decide), fun q => absurd q (by decide), fun _ => ⟨by decide, by
  show Cond.methodLink _ _ (mN 374) ∈ GW
  unfold mN
  rw [mX_374]
  exact ml_7135⟩⟩
set_option maxRecDepth 100000 in
theorem mp_13226 : PM2 (13226, 399, 1, 1586) := ⟨fun q => absurd q (by decide), fun q => absurd q (by decide), fun _ => ⟨by decide, by
  show Cond.methodLink _ _ (mN 399) ∈ GW
  unfold mN
  rw [mX_399]
  exact ml_13226⟩⟩
set_option maxRecDepth 100000 in
theorem mp_13083 : PM2 (13083, 173, 0, 1589) := ⟨fun q => absurd q (by decide), fun q => absurd q (by decide), fun _ => ⟨by decide, by
  show Cond.methodLink _ _ (mN 173) ∈ GW
  unfold mN
  rw [mX_173]
  exact ml_13083⟩⟩
set_option maxRecDepth 100000 in
theorem mp_13229 : PM2 (13229, 400, 1, 1593) := ⟨fun q => absurd q (by decide), fun q => absurd q (by decide), fun _ => ⟨by decide, by
  show Cond.methodLink _ _ (mN 400) ∈ GW
  unfold mN
  rw [mX_400]
  exact ml_13229⟩⟩
set_option maxRecDepth 100000 in
theorem mp_13086 : PM2 (13086, 174, 0, 1596) := ⟨fun q => absurd q (by decide), fun q => absurd q (by decide), fun _ => ⟨by decide, by
  show Cond.methodLink _ _ (mN 174) ∈ GW
  unfold mN
  rw [mX_174]
  exact ml_13086⟩⟩
set_option maxRecDepth 100000 in
theorem mp_13232 : PM2 (13232, 401, 1, 1600) := ⟨fun q => absurd q (by decide), fun q => absurd q (by decide), fun _ => ⟨by decide, by
  show Cond.methodLink _ _ (mN 401) ∈ GW
  unfold mN
  rw [mX_401]
  exact ml_13232⟩⟩
set_option maxRecDepth 100000 in
theorem mp_13089 : PM2 (13089, 175, 0, 1603) := ⟨fun q => absurd q (by decide), fun q => absurd q (by decide), fun _ => ⟨by decide, by
  show Cond.methodLink _ _ (mN 175) ∈ GW
  unfold mN
  rw [mX_175]
  exact ml_13089⟩⟩
set_option maxRecDepth 100000 in
theorem mp_11160 : PM2 (11160, 207, 1, 1607) := ⟨fun q => absurd q (by decide), fun q => absurd q (by decide), fun _ => ⟨by decide, by
  show Cond.methodLink _ _ (mN 207) ∈ GW
  unfold mN
  rw [mX_207]
  exact ml_11160⟩⟩
set_option maxRecDepth 100000 in
theorem mp_11167 : PM2 (11167, 29, 0, 1610) := ⟨fun q => absurd q (by decide), fun q => absurd q (by decide), fun _ => ⟨by decide, by
  show Cond.methodLink _ _ (mN 29) ∈ GW
  unfold mN
  rw [mX_29]
  exact ml_11167⟩⟩
set_option maxRecDepth 100000 in
theorem mp_13235 : PM2 (13235, 402, 1, 1614) := ⟨fun q => absurd q (by decide), fun q => absurd q (by decide), fun _ => ⟨by decide, by
  show Cond.methodLink _ _ (mN 402) ∈ GW
  unfold mN
  rw [mX_402]
  exact ml_13235⟩⟩
set_option maxRecDepth 100000 in
theorem mp_13092 : PM2 (13092, 176, 0, 1617) := ⟨fun q => absurd q (by decide), fun q => absurd q (by decide), fun _ => ⟨by decide, by
  show Cond.methodLink _ _ (mN 176) ∈ GW
  unfold mN
  rw [mX_176]
  exact ml_13092⟩⟩
set_option maxRecDepth 100000 in
theorem mp_11172 : PM2 (11172, 19, 0, 1621) := ⟨fun q => absurd q (by decide), fun q => absurd q (by decide), fun _ => ⟨by decide, by
  show Cond.methodLink _ _ (mN 19) ∈ GW
  unfold mN
  rw [mX_19]
  exact ml_11172⟩⟩
set_option maxRecDepth 100000 in
theorem mp_13238 : PM2 (13238, 403, 1, 1622) := ⟨fun q => absurd q (by decide), fun q => absurd q (by decide), fun _ => ⟨by decide, by
  show Cond.methodLink _ _ (mN 403) ∈ GW
  unfold mN
  rw [mX_403]
  exact ml_13238⟩⟩
set_option maxRecDepth 100000 in
theorem mp_13095 : PM2 (13095, 177, 0, 1625) := ⟨fun q => absurd q (by decide), fun q => absurd q (by decide), fun _ => ⟨by decide, by
  show Cond.methodLink _ _ (mN 177) ∈ GW
  unfold mN
  rw [mX_177]
  exact ml_13095⟩⟩
set_option maxRecDepth 100000 in
theorem mp_11181 : PM2 (11181, 34, 0, 1629) := ⟨fun q => absurd q (by decide), fun q => absurd q (by decide), fun _ => ⟨by decide, by
  show Cond.methodLink _ _ (mN 34) ∈ GW
  unfold mN
  rw [mX_34]
  exact ml_11181⟩⟩
set_option maxRecDepth 100000 in
theorem mp_13241 : PM2 (13241, 404, 1, 1633) := ⟨fun q => absurd q (by decide), fun q => absurd q (by decide), fun _ => ⟨by decide, by
  show Cond.methodLink _ _ (mN 404) ∈ GW
  unfold mN
  rw [mX_404]
  exact ml_13241⟩⟩
set_option maxRecDepth 100000 in
theorem mp_13098 : PM2 (13098, 178, 0, 1636) := ⟨fun q => absurd q (by decide), fun q => absurd q (by decide), fun _ => ⟨by decide, by
  show Cond.methodLink _ _ (mN 178) ∈ GW
  unfold mN
  rw [mX_178]
  exact ml_13098⟩⟩
set_option maxRecDepth 100000 in
theorem mp_13244 : PM2 (13244, 405, 1, 1640) := ⟨fun q => absurd q (by decide), fun q => absurd q (by decide), fun _ => ⟨by decide, by
  show Cond.methodLink _ _ (mN 405) ∈ GW
  unfold mN
  rw [mX_405]
  exact ml_13244⟩⟩
set_option maxRecDepth 100000 in
theorem mp_13101 : PM2 (13101, 179, 0, 1643) := ⟨fun q => absurd q (by decide), fun q => absurd q (by decide), fun _ => ⟨by decide, by
  show Cond.methodLink _ _ (mN 179) ∈ GW
  unfold mN
  rw [mX_179]
  exact ml_13101⟩⟩
set_option maxRecDepth 100000 in
theorem mp_13259 : PM2 (13259, 406, 1, 1647) := ⟨fun q => absurd q (by decide), fun q => absurd q (by decide), fun _ => ⟨by decide, by
  show Cond.methodLink _ _ (mN 406) ∈ GW
  unfold mN
  rw [mX_406]
  exact ml_13259⟩⟩
set_option maxRecDepth 100000 in
theorem mp_13104 : PM2 (13104, 183, 0, 1650) := ⟨fun q => absurd q (by decide), fun q => absurd q (by decide), fun _ => ⟨by decide, by
  show Cond.methodLink _ _ (mN 183) ∈ GW
  unfold mN
  rw [mX_183]
  exact ml_13104⟩⟩
set_option maxRecDepth 100000 in
theorem mp_13262 : PM2 (13262, 407, 1, 1654) := ⟨fun q => absurd q (by decide), fun q => absurd q (by decide), fun _ => ⟨by decide, by
  show Cond.methodLink _ _ (mN 407) ∈ GW
  unfold mN
  rw [mX_407]
  exact ml_13262⟩⟩
set_option maxRecDepth 100000 in
theorem mp_13107 : PM2 (13107, 184, 0, 1657) := ⟨fun q => absurd q (by decide), fun q => absurd q (by decide), fun _ => ⟨by decide, by
  show Cond.methodLink _ _ (mN 184) ∈ GW
  unfold mN
  rw [mX_184]
  exact ml_13107⟩⟩
set_option maxRecDepth 100000 in
theorem mp_11199 : PM2 (11199, 81, 0, 1661) := ⟨fun q => absurd q (by decide), fun q => absurd q (by decide), fun _ => ⟨by decide, by
  show Cond.methodLink _ _ (mN 81) ∈ GW
  unfold mN
  rw [mX_81]
  exact ml_11199⟩⟩
set_option maxRecDepth 100000 in
theorem mp_13266 : PM2 (13266, 408, 1, 1662) := ⟨fun q => absurd q (by decide), fun q => absurd q (by decide), fun _ => ⟨by decide, by
  show Cond.methodLink _ _ (mN 408) ∈ GW
  unfold mN
  rw [mX_408]
  exact ml_13266⟩⟩
set_option maxRecDepth 100000 in
theorem mp_13111 : PM2 (13111, 185, 0, 1665) := ⟨fun q => absurd q (by decide), fun q => absurd q (by decide), fun _ => ⟨by decide, by
  show Cond.methodLink _ _ (mN 185) ∈ GW
  unfold mN
  rw [mX_185]
  exact ml_13111⟩⟩
set_option maxRecDepth 100000 in
theorem mp_13269 : PM2 (13269, 409, 1, 1669) := ⟨fun q => absurd q (by decide), fun q => absurd q (by decide), fun _ => ⟨by decide, by
  show Cond.methodLink _ _ (mN 409) ∈ GW
  unfold mN
  rw [mX_409]
  exact ml_13269⟩⟩
set_option maxRecDepth 100000 in
theorem mp_13114 : PM2 (13114, 186, 0, 1672) := ⟨fun q => absurd q (by decide), fun q => absurd q (by decide), fun _ => ⟨by decide, by
  show Cond.methodLink _ _ (mN 186) ∈ GW
  unfold mN
  rw [mX_186]
  exact ml_13114⟩⟩
set_option maxRecDepth 100000 in
theorem mp_11203 : PM2 (11203, 83, 0, 1676) := ⟨fun q => absurd q (by decide), fun q => absurd q (by decide), fun _ => ⟨by decide, by
  show Cond.methodLink _ _ (mN 83) ∈ GW
  unfold mN
  rw [mX_83]
  exact ml_11203⟩⟩
set_option maxRecDepth 100000 in
theorem mp_13276 : PM2 (13276, 410, 1, 1680) := ⟨fun q => absurd q (by decide), fun q => absurd q (by decide), fun _ => ⟨by decide, by
  show Cond.methodLink _ _ (mN 410) ∈ GW
  unfold mN
  rw [mX_410]
  exact ml_13276⟩⟩
set_option maxRecDepth 100000 in
theorem mp_13117 : PM2 (13117, 188, 0, 1683) := ⟨fun q => absurd q (by decide), fun q => absurd q (by decide), fun _ => ⟨by decide, by
  show Cond.methodLink _ _ (mN 188) ∈ GW
  unfold mN
  rw [mX_188]
  exact ml_13117⟩⟩
set_option maxRecDepth 100000 in
theorem mp_13279 : PM2 (13279, 411, 1, 1687) := ⟨fun q => absurd q (by decide), fun q => absurd q (by decide), fun _ => ⟨by decide, by
  show Cond.methodLink _ _ (mN 411) ∈ GW
  unfold mN
  rw [mX_411]
  exact ml_13279⟩⟩
set_option maxRecDepth 100000 in
theorem mp_13120 : PM2 (13120, 189, 0, 1690) := ⟨fun q => absurd q (by decide), fun q => absurd q (by decide), fun _ => ⟨by decide, by
  show Cond.methodLink _ _ (mN 189) ∈ GW
  unfold mN
  rw [mX_189]
  exact ml_13120⟩⟩
set_option maxRecDepth 100000 in
theorem mp_13282 : PM2 (13282, 412, 1, 1694) := ⟨fun q => absurd q (by decide), fun q => absurd q (by decide), fun _ => ⟨by decide, by
  show Cond.methodLink _ _ (mN 412) ∈ GW
  unfold mN
  rw [mX_412]
  exact ml_13282⟩⟩
set_option maxRecDepth 100000 in
theorem mp_13123 : PM2 (13123, 190, 0, 1697) := ⟨fun q => absurd q (by decide), fun q => absurd q (by decide), fun _ => ⟨by decide, by
  show Cond.methodLink _ _ (mN 190) ∈ GW
  unfold mN
  rw [mX_190]
  exact ml_13123⟩⟩
set_option maxRecDepth 100000 in
theorem mp_13285 : PM2 (13285, 413, 1, 1701) := ⟨fun q => absurd q (by decide), fun q => absurd q (by decide), fun _ => ⟨by decide, by
  show Cond.methodLink _ _ (mN 413) ∈ GW
  unfold mN
  rw [mX_413]
  exact ml_13285⟩⟩
set_option maxRecDepth 100000 in
theorem mp_13126 : PM2 (13126, 191, 0, 1704) := ⟨fun q => absurd q (by decide), fun q => absurd q (by decide), fun _ => ⟨by decide, by
  show Cond.methodLink _ _ (mN 191) ∈ GW
  unfold mN
  rw [mX_191]
  exact ml_13126⟩⟩
set_option maxRecDepth 100000 in
theorem mp_13288 : PM2 (13288, 414, 1, 1708) := ⟨fun q => absurd q (by decide), fun q => absurd q (by decide), fun _ => ⟨by decide, by
  show Cond.methodLink _ _ (mN 414) ∈ GW
  unfold mN
  rw [mX_414]
  exact ml_13288⟩⟩
set_option maxRecDepth 100000 in
theorem mp_13129 : PM2 (13129, 192, 0, 1711) := ⟨fun q => absurd q (by decide), fun q => absurd q (by decide), fun _ => ⟨by decide, by
  show Cond.methodLink _ _ (mN 192) ∈ GW
  unfold mN
  rw [mX_192]
  exact ml_13129⟩⟩
set_option maxRecDepth 100000 in
theorem mp_11229 : PM2 (11229, 135, 0, 1715) := ⟨fun q => absurd q (by decide), fun q => absurd q (by decide), fun _ => ⟨by decide, by
  show Cond.methodLink _ _ (mN 135) ∈ GW
  unfold mN
  rw [mX_135]
  exact ml_11229⟩⟩
set_option maxRecDepth 100000 in
theorem mp_11235 : PM2 (11235, 137, 0, 1716) := ⟨fun q => absurd q (by decide), fun q => absurd q (by decide), fun _ => ⟨by decide, by
  show Cond.methodLink _ _ (mN 137) ∈ GW
  unfold mN
  rw [mX_137]
  exact ml_11235⟩⟩
set_option maxRecDepth 100000 in
theorem mp_13295 : PM2 (13295, 415, 1, 1717) := ⟨fun q => absurd q (by decide), fun q => absurd q (by decide), fun _ => ⟨by decide, by
  show Cond.methodLink _ _ (mN 415) ∈ GW
  unfold mN
  rw [mX_415]
  exact ml_13295⟩⟩
set_option maxRecDepth 100000 in
theorem mp_13132 : PM2 (13132, 194, 0, 1720) := ⟨fun q => absurd q (by decide), fun q => absurd q (by decide), fun _ => ⟨by decide, by
  show Cond.methodLink _ _ (mN 194) ∈ GW
  unfold mN
  rw [mX_194]
  exact ml_13132⟩⟩
set_option maxRecDepth 100000 in
theorem mp_11242 : PM2 (11242, 55, 0, 1724) := ⟨fun q => absurd q (by decide), fun q => absurd q (by decide), fun _ => ⟨by decide, by
  show Cond.methodLink _ _ (mN 55) ∈ GW
  unfold mN
  rw [mX_55]
  exact ml_11242⟩⟩
set_option maxRecDepth 100000 in
theorem mp_13298 : PM2 (13298, 416, 1, 1728) := ⟨fun q => absurd q (by decide), fun q => absurd q (by decide), fun _ => ⟨by decide, by
  show Cond.methodLink _ _ (mN 416) ∈ GW
  unfold mN
  rw [mX_416]
  exact ml_13298⟩⟩
set_option maxRecDepth 100000 in
theorem mp_13135 : PM2 (13135, 195, 0, 1731) := ⟨fun q => absurd q (by decide), fun q => absurd q (by decide), fun _ => ⟨by decide, by
  show Cond.methodLink _ _ (mN 195) ∈ GW
  unfold mN
  rw [mX_195]
  exact ml_13135⟩⟩
set_option maxRecDepth 100000 in
theorem mp_13301 : PM2 (13301, 417, 1, 1735) := ⟨fun q => absurd q (by decide), fun q => absurd q (by decide), fun _ => ⟨by decide, by
  show Cond.methodLink _ _ (mN 417) ∈ GW
  unfold mN
  rw [mX_417]
  exact ml_13301⟩⟩
set_option maxRecDepth 100000 in
theorem mp_13138 : PM2 (13138, 196, 0, 1738) := ⟨fun q => absurd q (by decide), fun q => absurd q (by decide), fun _ => ⟨by decide, by
  show Cond.methodLink _ _ (mN 196) ∈ GW
  unfold mN
  rw [mX_196]
  exact ml_13138⟩⟩
set_option maxRecDepth 100000 in
theorem mp_13304 : PM2 (13304, 418, 1, 1742) := ⟨fun q => absurd q (by decide), fun q => absurd q (by decide), fun _ => ⟨by decide, by
  show Cond.methodLink _ _ (mN 418) ∈ GW
  unfold mN
  rw [mX_418]
  exact ml_13304⟩⟩
set_option maxRecDepth 100000 in
theorem mp_13142 : PM2 (13142, 197, 0, 1745) := ⟨fun q => absurd q (by decide), fun q => absurd q (by decide), fun _ => ⟨by decide, by
  show Cond.methodLink _ _ (mN 197) ∈ GW
  unfold mN
  rw [mX_197]
  exact ml_13142⟩⟩
set_option maxRecDepth 100000 in
theorem mp_13307 : PM2 (13307, 419, 1, 1749) := ⟨fun q => absurd q (by decide), fun q => absurd q (by decide), fun _ => ⟨by decide, by
  show Cond.methodLink _ _ (mN 419) ∈ GW
  unfold mN
  rw [mX_419]
  exact ml_13307⟩⟩
set_option maxRecDepth 100000 in
theorem mp_13145 : PM2 (13145, 198, 0, 1752) := ⟨fun q => absurd q (by decide), fun q => absurd q (by decide), fun _ => ⟨by decide, by
  show Cond.methodLink _ _ (mN 198) ∈ GW
  unfold mN
  rw [mX_198]
  exact ml_13145⟩⟩
set_option maxRecDepth 100000 in
theorem mp_11252 : PM2 (11252, 22, 0, 1756) := ⟨fun q => absurd q (by decide), fun q => absurd q (by decide), fun _ => ⟨by decide, by
  show Cond.methodLink _ _ (mN 22) ∈ GW
  unfold mN
  rw [mX_22]
  exact ml_11252⟩⟩
set_option maxRecDepth 100000 in
theorem mp_13152 : PM2 (13152, 212, 2, 1762) := ⟨fun q => absurd q (by decide), fun q => absurd q (by decide), fun _ => ⟨by decide, by
  show Cond.methodLink _ _ (mN 212) ∈ GW
  unfold mN
  rw [mX_212]
  exact ml_13152⟩⟩
set_option maxRecDepth 100000 in
theorem mp_12001 : PM2 (12001, 0, 4, 1765) := ⟨fun _ => ml_12001, fun q => absurd q (by decide), fun q => absurd q (by decide)⟩
set_option maxRecDepth 100000 in
theorem mp_12177 : PM2 (12177, 214, 0, 1766) := ⟨fun q => absurd q (by decide), fun q => absurd q (by decide), fun _ => ⟨by decide, by
  show Cond.methodLink _ _ (mN 214) ∈ GW
  unfold mN
  rw [mX_214]
  exact ml_12177⟩⟩
set_option maxRecDepth 100000 in
theorem mp_13159 : PM2 (13159, 213, 0, 1984) := ⟨fun q => absurd q (by decide), fun q => absurd q (by decide), fun _ => ⟨by decide, by
  show Cond.methodLink _ _ (mN 213) ∈ GW
  unfold mN
  rw [mX_213]
  exact ml_13159⟩⟩
set_option maxRecDepth 100000 in
theorem mp_13158 : PM2 (13158, 322, 0, 1988) := ⟨fun q => absurd q (by decide), fun q => absurd q (by decide), fun _ => ⟨by decide, by
  show Cond.methodLink _ _ (mN 322) ∈ GW
  unfold mN
  rw [mX_322]
  exact ml_13158⟩⟩
set_option maxRecDepth 100000 in
theorem mp_12594 : PM2 (12594, 321, 0, 1992) := ⟨fun q => absurd q (by decide), fun q => absurd q (by decide), fun _ => ⟨by decide, by
  show Cond.methodLink _ _ (mN 321) ∈ GW
  unfold mN
  rw [mX_321]
  exact ml_12594⟩⟩
set_option maxRecDepth 100000 in
theorem mp_12587 : PM2 (12587, 319, 0, 1996) := ⟨fun q => absurd q (by decide), fun q => absurd q (by decide), fun _ => ⟨by decide, by
  show Cond.methodLink _ _ (mN 319) ∈ GW
  unfold mN
  rw [mX_319]
  exact ml_12587⟩⟩
set_option maxRecDepth 100000 in
theorem mp_12509 : PM2 (12509, 284, 0, 2000) := ⟨fun q => absurd q (by decide), fun q => absurd q (by decide), fun _ => ⟨by decide, by
  show Cond.methodLink _ _ (mN 284) ∈ GW
  unfold mN
  rw [mX_284]
  exact ml_12509⟩⟩
set_option maxRecDepth 100000 in
theorem mp_12429 : PM2 (12429, 280, 1, 2004) := ⟨fun q => absurd q (by decide), fun q => absurd q (by decide), fun _ => ⟨by decide, by
  show Cond.methodLink _ _ (mN 280) ∈ GW
  unfold mN
  rw [mX_280]
  exact ml_12429⟩⟩
set_option maxRecDepth 100000 in
theorem mp_12209 : PM2 (12209, 215, 1, 2007) := ⟨fun q => absurd q (by decide), fun q => absurd q (by decide), fun _ => ⟨by decide, by
  show Cond.methodLink _ _ (mN 215) ∈ GW
  unfold mN
  rw [mX_215]
  exact ml_12209⟩⟩
set_option maxRecDepth 100000 in
theorem mp_12334 : PM2 (12334, 219, 1, 2010) := ⟨fun q => absurd q (by decide), fun q => absurd q (by decide), fun _ => ⟨by decide, by
  show Cond.methodLink _ _ (mN 219) ∈ GW
  unfold mN
  rw [mX_219]
  exact ml_12334⟩⟩
set_option maxRecDepth 100000 in
theorem mp_12432 : PM2 (12432, 281, 0, 2013) := ⟨fun q => absurd q (by decide), fun q => absurd q (by decide), fun _ => ⟨by decide, by
  show Cond.methodLink _ _ (mN 281) ∈ GW
  unfold mN
  rw [mX_281]
  exact ml_12432⟩⟩
set_option maxRecDepth 100000 in
theorem mp_12213 : PM2 (12213, 216, 1, 2017) := ⟨fun q => absurd q (by decide), fun q => absurd q (by decide), fun _ => ⟨by decide, by
  show Cond.methodLink _ _ (mN 216) ∈ GW
  unfold mN
  rw [mX_216]
  exact ml_12213⟩⟩
set_option maxRecDepth 100000 in
theorem mp_12435 : PM2 (12435, 282, 0, 2020) := ⟨fun q => absurd q (by decide), fun q => absurd q (by decide), fun _ => ⟨by decide, by
  show Cond.methodLink _ _ (mN 282) ∈ GW
  unfold mN
  rw [mX_282]
  exact ml_12435⟩⟩
set_option maxRecDepth 100000 in
theorem mp_12423 : PM2 (12423, 222, 0, 2024) := ⟨fun q => absurd q (by decide), fun q => absurd q (by decide), fun _ => ⟨by decide, by
  show Cond.methodLink _ _ (mN 222) ∈ GW
  unfold mN
  rw [mX_222]
  exact ml_12423⟩⟩
set_option maxRecDepth 100000 in
theorem mp_12426 : PM2 (12426, 231, 0, 2028) := ⟨fun q => absurd q (by decide), fun q => absurd q (by decide), fun _ => ⟨by decide, by
  show Cond.methodLink _ _ (mN 231) ∈ GW
  unfold mN
  rw [mX_231]
  exact ml_12426⟩⟩
set_option maxRecDepth 100000 in
theorem mp_12224 : PM2 (12224, 221, 1, 2032) := ⟨fun q => absurd q (by decide), fun q => absurd q (by decide), fun _ => ⟨by decide, by
  show Cond.methodLink _ _ (mN 221) ∈ GW
  unfold mN
  rw [mX_221]
  exact ml_12224⟩⟩
set_option maxRecDepth 100000 in
theorem mp_12232 : PM2 (12232, 230, 0, 2035) := ⟨fun q => absurd q (by decide), fun q => absurd q (by decide), fun _ => ⟨by decide, by
  show Cond.methodLink _ _ (mN 230) ∈ GW
  unfold mN
  rw [mX_230]
  exact ml_12232⟩⟩
set_option maxRecDepth 100000 in
theorem mp_12228 : PM2 (12228, 229, 0, 2039) := ⟨fun q => absurd q (by decide), fun q => absurd q (by decide), fun _ => ⟨by decide, by
  show Cond.methodLink _ _ (mN 229) ∈ GW
  unfold mN
  rw [mX_229]
  exact ml_12228⟩⟩
set_option maxRecDepth 100000 in
theorem mp_12328 : PM2 (12328, 218, 0, 2043) := ⟨fun q => absurd q (by decide), fun q => absurd q (by decide), fun _ => ⟨by decide, by
  show Cond.methodLink _ _ (mN 218) ∈ GW
  unfold mN
  rw [mX_218]
  exact ml_12328⟩⟩
set_option maxRecDepth 100000 in
theorem mp_12438 : PM2 (12438, 283, 0, 2047) := ⟨fun q => absurd q (by decide), fun q => absurd q (by decide), fun _ => ⟨by decide, by
  show Cond.methodLink _ _ (mN 283) ∈ GW
  unfold mN
  rw [mX_283]
  exact ml_12438⟩⟩
set_option maxRecDepth 100000 in
theorem mp_12244 : PM2 (12244, 238, 0, 2051) := ⟨fun q => absurd q (by decide), fun q => absurd q (by decide), fun _ => ⟨by decide, by
  show Cond.methodLink _ _ (mN 238) ∈ GW
  unfold mN
  rw [mX_238]
  exact ml_12244⟩⟩
set_option maxRecDepth 100000 in
theorem mp_12248 : PM2 (12248, 239, 1, 2055) := ⟨fun q => absurd q (by decide), fun q => absurd q (by decide), fun _ => ⟨by decide, by
  show Cond.methodLink _ _ (mN 239) ∈ GW
  unfold mN
  rw [mX_239]
  exact ml_12248⟩⟩
set_option maxRecDepth 100000 in
theorem mp_12305 : PM2 (12305, 220, 0, 2058) := ⟨fun q => absurd q (by decide), fun q => absurd q (by decide), fun _ => ⟨by decide, by
  show Cond.methodLink _ _ (mN 220) ∈ GW
  unfold mN
  rw [mX_220]
  exact ml_12305⟩⟩
set_option maxRecDepth 100000 in
theorem mp_12442 : PM2 (12442, 224, 0, 2062) := ⟨fun q => absurd q (by decide), fun q => absurd q (by decide), fun _ => ⟨by decide, by
  show Cond.methodLink _ _ (mN 224) ∈ GW
  unfold mN
  rw [mX_224]
  exact ml_12442⟩⟩
set_option maxRecDepth 100000 in
theorem mp_12446 : PM2 (12446, 257, 0, 2066) := ⟨fun q => absurd q (by decide), fun q => absurd q (by decide), fun _ => ⟨by decide, by
  show Cond.methodLink _ _ (mN 257) ∈ GW
  unfold mN
  rw [mX_257]
  exact ml_12446⟩⟩
set_option maxRecDepth 100000 in
theorem mp_12331 : PM2 (12331, 256, 0, 2070) := ⟨fun q => absurd q (by decide), fun q => absurd q (by decide), fun _ => ⟨by decide, by
  show Cond.methodLink _ _ (mN 256) ∈ GW
  unfold mN
  rw [mX_256]
  exact ml_12331⟩⟩
set_option maxRecDepth 100000 in
theorem mp_12322 : PM2 (12322, 255, 0, 2074) := ⟨fun q => absurd q (by decide), fun q => absurd q (by decide), fun _ => ⟨by decide, by
  show Cond.methodLink _ _ (mN 255) ∈ GW
  unfold mN
  rw [mX_255]
  exact ml_12322⟩⟩
set_option maxRecDepth 100000 in
theorem mp_12301 : PM2 (12301, 240, 0, 2078) := ⟨fun q => absurd q (by decide), fun q => absurd q (by decide), fun _ => ⟨by decide, by
  show Cond.methodLink _ _ (mN 240) ∈ GW
  unfold mN
  rw [mX_240]
  exact ml_12301⟩⟩
set_option maxRecDepth 100000 in
theorem mp_12309 : PM2 (12309, 254, 0, 2082) := ⟨fun q => absurd q (by decide), fun q => absurd q (by decide), fun _ => ⟨by decide, by
  show Cond.methodLink _ _ (mN 254) ∈ GW
  unfold mN
  rw [mX_254]
  exact ml_12309⟩⟩
set_option maxRecDepth 100000 in
theorem mp_12312 : PM2 (12312, 252, 0, 2086) := ⟨fun q => absurd q (by decide), fun q => absurd q (by decide), fun _ => ⟨by decide, by
  show Cond.methodLink _ _ (mN 252) ∈ GW
  unfold mN
  rw [mX_252]
  exact ml_12312⟩⟩
set_option maxRecDepth 100000 in
theorem mp_12251 : PM2 (12251, 241, 0, 2090) := ⟨fun q => absurd q (by decide), fun q => absurd q (by decide), fun _ => ⟨by decide, by
  show Cond.methodLink _ _ (mN 241) ∈ GW
  unfold mN
  rw [mX_241]
  exact ml_12251⟩⟩
set_option maxRecDepth 100000 in
theorem mp_12315 : PM2 (12315, 253, 0, 2094) := ⟨fun q => absurd q (by decide), fun q => absurd q (by decide), fun _ => ⟨by decide, by
  show Cond.methodLink _ _ (mN 253) ∈ GW
  unfold mN
  rw [mX_253]
  exact ml_12315⟩⟩
set_option maxRecDepth 100000 in
theorem mp_12319 : PM2 (12319, 251, 0, 2098) := ⟨fun q => absurd q (by decide), fun q => absurd q (by decide), fun _ => ⟨by decide, by
  show Cond.methodLink _ _ (mN 251) ∈ GW
  unfold mN
  rw [mX_251]
  exact ml_12319⟩⟩
set_option maxRecDepth 100000 in
theorem mp_12280 : PM2 (12280, 243, 0, 2102) := ⟨fun q => absurd q (by decide), fun q => absurd q (by decide), fun _ => ⟨by decide, by
  show Cond.methodLink _ _ (mN 243) ∈ GW
  unfold mN
  rw [mX_243]
  exact ml_12280⟩⟩
set_option maxRecDepth 100000 in
theorem mp_12258 : PM2 (12258, 226, 0, 2106) := ⟨fun q => absurd q (by decide), fun q => absurd q (by decide), fun _ => ⟨by decide, by
  show Cond.methodLink _ _ (mN 226) ∈ GW
  unfold mN
  rw [mX_226]
  exact ml_12258⟩⟩
set_option maxRecDepth 100000 in
theorem mp_12283 : PM2 (12283, 245, 0, 2110) := ⟨fun q => absurd q (by decide), fun q => absurd q (by decide), fun _ => ⟨by decide, by
  show Cond.methodLink _ _ (mN 245) ∈ GW
  unfold mN
  rw [mX_245]
  exact ml_12283⟩⟩
set_option maxRecDepth 100000 in
theorem mp_12254 : PM2 (12254, 242, 0, 2114) := ⟨fun q => absurd q (by decide), fun q => absurd q (by decide), fun _ => ⟨by decide, by
  show Cond.methodLink _ _ (mN 242) ∈ GW
  unfold mN
  rw [mX_242]
  exact ml_12254⟩⟩
set_option maxRecDepth 100000 in
theorem mp_12261 : PM2 (12261, 244, 0, 2118) := ⟨fun q => absurd q (by decide), fun q => absurd q (by decide), fun _ => ⟨by decide, by
  show Cond.methodLink _ _ (mN 244) ∈ GW
  unfold mN
  rw [mX_244]
  exact ml_12261⟩⟩
set_option maxRecDepth 100000 in
theorem mp_12287 : PM2 (12287, 246, 0, 2122) := ⟨fun q => absurd q (by decide), fun q => absurd q (by decide), fun _ => ⟨by decide, by
  show Cond.methodLink _ _ (mN 246) ∈ GW
  unfold mN
  rw [mX_246]
  exact ml_12287⟩⟩
set_option maxRecDepth 100000 in
theorem mp_12265 : PM2 (12265, 247, 0, 2126) := ⟨fun q => absurd q (by decide), fun q => absurd q (by decide), fun _ => ⟨by decide, by
  show Cond.methodLink _ _ (mN 247) ∈ GW
  unfold mN
  rw [mX_247]
  exact ml_12265⟩⟩
set_option maxRecDepth 100000 in
theorem mp_12290 : PM2 (12290, 248, 0, 2130) := ⟨fun q => absurd q (by decide), fun q => absurd q (by decide), fun _ => ⟨by decide, by
  show Cond.methodLink _ _ (mN 248) ∈ GW
  unfold mN
  rw [mX_248]
  exact ml_12290⟩⟩
set_option maxRecDepth 100000 in
theorem mp_12293 : PM2 (12293, 250, 0, 2134) := ⟨fun q => absurd q (by decide), fun q => absurd q (by decide), fun _ => ⟨by decide, by
  show Cond.methodLink _ _ (mN 250) ∈ GW
  unfold mN
  rw [mX_250]
  exact ml_12293⟩⟩
set_option maxRecDepth 100000 in
theorem mp_12297 : PM2 (12297, 249, 0, 2138) := ⟨fun q => absurd q (by decide), fun q => absurd q (by decide), fun _ => ⟨by decide, by
  show Cond.methodLink _ _ (mN 249) ∈ GW
  unfold mN
  rw [mX_249]
  exact ml_12297⟩⟩
set_option maxRecDepth 100000 in
theorem mp_12269 : PM2 (12269, 233, 0, 2142) := ⟨fun q => absurd q (by decide), fun q => absurd q (by decide), fun _ => ⟨by decide, by
  show Cond.methodLink _ _ (mN 233) ∈ GW
  unfold mN
  rw [mX_233]
  exact ml_12269⟩⟩
set_option maxRecDepth 100000 in
theorem mp_12236 : PM2 (12236, 232, 0, 2146) := ⟨fun q => absurd q (by decide), fun q => absurd q (by decide), fun _ => ⟨by decide, by
  show Cond.methodLink _ _ (mN 232) ∈ GW
  unfold mN
  rw [mX_232]
  exact ml_12236⟩⟩
set_option maxRecDepth 100000 in
theorem mp_12273 : PM2 (12273, 236, 0, 2150) := ⟨fun q => absurd q (by decide), fun q => absurd q (by decide), fun _ => ⟨by decide, by
  show Cond.methodLink _ _ (mN 236) ∈ GW
  unfold mN
  rw [mX_236]
  exact ml_12273⟩⟩
set_option maxRecDepth 100000 in
theorem mp_12217 : PM2 (12217, 227, 0, 2154) := ⟨fun q => absurd q (by decide), fun q => absurd q (by decide), fun _ => ⟨by decide, by
  show Cond.methodLink _ _ (mN 227) ∈ GW
  unfold mN
  rw [mX_227]
  exact ml_12217⟩⟩
set_option maxRecDepth 100000 in
theorem mp_12221 : PM2 (12221, 225, 0, 2158) := ⟨fun q => absurd q (by decide), fun q => absurd q (by decide), fun _ => ⟨by decide, by
  show Cond.methodLink _ _ (mN 225) ∈ GW
  unfold mN
  rw [mX_225]
  exact ml_12221⟩⟩
set_option maxRecDepth 100000 in
theorem mp_12277 : PM2 (12277, 237, 0, 2162) := ⟨fun q => absurd q (by decide), fun q => absurd q (by decide), fun _ => ⟨by decide, by
  show Cond.methodLink _ _ (mN 237) ∈ GW
  unfold mN
  rw [mX_237]
  exact ml_12277⟩⟩
set_option maxRecDepth 100000 in
theorem mp_12325 : PM2 (12325, 228, 0, 2166) := ⟨fun q => absurd q (by decide), fun q => absurd q (by decide), fun _ => ⟨by decide, by
  show Cond.methodLink _ _ (mN 228) ∈ GW
  unfold mN
  rw [mX_228]
  exact ml_12325⟩⟩
set_option maxRecDepth 100000 in
theorem mp_12513 : PM2 (12513, 285, 0, 2170) := ⟨fun q => absurd q (by decide), fun q => absurd q (by decide), fun _ => ⟨by decide, by
  show Cond.methodLink _ _ (mN 285) ∈ GW
  unfold mN
  rw [mX_285]
  exact ml_12513⟩⟩
set_option maxRecDepth 100000 in
theorem mp_12516 : PM2 (12516, 286, 0, 2174) := ⟨fun q => absurd q (by decide), fun q => absurd q (by decide), fun _ => ⟨by decide, by
  show Cond.methodLink _ _ (mN 286) ∈ GW
  unfold mN
  rw [mX_286]
  exact ml_12516⟩⟩
set_option maxRecDepth 100000 in
theorem mp_12520 : PM2 (12520, 287, 0, 2178) := ⟨fun q => absurd q (by decide), fun q => absurd q (by decide), fun _ => ⟨by decide, by
  show Cond.methodLink _ _ (mN 287) ∈ GW
  unfold mN
  rw [mX_287]
  exact ml_12520⟩⟩
set_option maxRecDepth 100000 in
theorem mp_12523 : PM2 (12523, 288, 0, 2182) := ⟨fun q => absurd q (by decide), fun q => absurd q (by decide), fun _ => ⟨by decide, by
  show Cond.methodLink _ _ (mN 288) ∈ GW
  unfold mN
  rw [mX_288]
  exact ml_12523⟩⟩
set_option maxRecDepth 100000 in
theorem mp_12526 : PM2 (12526, 289, 0, 2186) := ⟨fun q => absurd q (by decide), fun q => absurd q (by decide), fun _ => ⟨by decide, by
  show Cond.methodLink _ _ (mN 289) ∈ GW
  unfold mN
  rw [mX_289]
  exact ml_12526⟩⟩
set_option maxRecDepth 100000 in
theorem mp_12529 : PM2 (12529, 290, 0, 2190) := ⟨fun q => absurd q (by decide), fun q => absurd q (by decide), fun _ => ⟨by decide, by
  show Cond.methodLink _ _ (mN 290) ∈ GW
  unfold mN
  rw [mX_290]
  exact ml_12529⟩⟩
set_option maxRecDepth 100000 in
theorem mp_12449 : PM2 (12449, 223, 0, 2194) := ⟨fun q => absurd q (by decide), fun q => absurd q (by decide), fun _ => ⟨by decide, by
  show Cond.methodLink _ _ (mN 223) ∈ GW
  unfold mN
  rw [mX_223]
  exact ml_12449⟩⟩
set_option maxRecDepth 100000 in
theorem mp_12532 : PM2 (12532, 291, 0, 2198) := ⟨fun q => absurd q (by decide), fun q => absurd q (by decide), fun _ => ⟨by decide, by
  show Cond.methodLink _ _ (mN 291) ∈ GW
  unfold mN
  rw [mX_291]
  exact ml_12532⟩⟩
set_option maxRecDepth 100000 in
theorem mp_12536 : PM2 (12536, 292, 0, 2202) := ⟨fun q => absurd q (by decide), fun q => absurd q (by decide), fun _ => ⟨by decide, by
  show Cond.methodLink _ _ (mN 292) ∈ GW
  unfold mN
  rw [mX_292]
  exact ml_12536⟩⟩
set_option maxRecDepth 100000 in
theorem mp_12540 : PM2 (12540, 293, 0, 2206) := ⟨fun q => absurd q (by decide), fun q => absurd q (by decide), fun _ => ⟨by decide, by
  show Cond.methodLink _ _ (mN 293) ∈ GW
  unfold mN
  rw [mX_293]
  exact ml_12540⟩⟩
set_option maxRecDepth 100000 in
theorem mp_12543 : PM2 (12543, 294, 0, 2210) := ⟨fun q => absurd q (by decide), fun q => absurd q (by decide), fun _ => ⟨by decide, by
  show Cond.methodLink _ _ (mN 294) ∈ GW
  unfold mN
  rw [mX_294]
  exact ml_12543⟩⟩
set_option maxRecDepth 100000 in
theorem mp_12452 : PM2 (12452, 274, 0, 2214) := ⟨fun q => absurd q (by decide), fun q => absurd q (by decide), fun _ => ⟨by decide, by
  show Cond.methodLink _ _ (mN 274) ∈ GW
  unfold mN
  rw [mX_274]
  exact ml_12452⟩⟩
set_option maxRecDepth 100000 in
theorem mp_12393 : PM2 (12393, 273, 0, 2218) := ⟨fun q => absurd q (by decide), fun q => absurd q (by decide), fun _ => ⟨by decide, by
  show Cond.methodLink _ _ (mN 273) ∈ GW
  unfold mN
  rw [mX_273]
  exact ml_12393⟩⟩
set_option maxRecDepth 100000 in
theorem mp_12396 : PM2 (12396, 272, 0, 2222) := ⟨fun q => absurd q (by decide), fun q => absurd q (by decide), fun _ => ⟨by decide, by
  show Cond.methodLink _ _ (mN 272) ∈ GW
  unfold mN
  rw [mX_272]
  exact ml_12396⟩⟩
set_option maxRecDepth 100000 in
theorem mp_12384 : PM2 (12384, 269, 0, 2226) := ⟨fun q => absurd q (by decide), fun q => absurd q (by decide), fun _ => ⟨by decide, by
  show Cond.methodLink _ _ (mN 269) ∈ GW
  unfold mN
  rw [mX_269]
  exact ml_12384⟩⟩
set_option maxRecDepth 100000 in
theorem mp_12378 : PM2 (12378, 268, 0, 2230) := ⟨fun q => absurd q (by decide), fun q => absurd q (by decide), fun _ => ⟨by decide, by
  show Cond.methodLink _ _ (mN 268) ∈ GW
  unfold mN
  rw [mX_268]
  exact ml_12378⟩⟩
set_option maxRecDepth 100000 in
theorem mp_12387 : PM2 (12387, 271, 0, 2234) := ⟨fun q => absurd q (by decide), fun q => absurd q (by decide), fun _ => ⟨by decide, by
  show Cond.methodLink _ _ (mN 271) ∈ GW
  unfold mN
  rw [mX_271]
  exact ml_12387⟩⟩
set_option maxRecDepth 100000 in
theorem mp_12381 : PM2 (12381, 270, 0, 2238) := ⟨fun q => absurd q (by decide), fun q => absurd q (by decide), fun _ => ⟨by decide, by
  show Cond.methodLink _ _ (mN 270) ∈ GW
  unfold mN
  rw [mX_270]
  exact ml_12381⟩⟩
set_option maxRecDepth 100000 in
theorem mp_12390 : PM2 (12390, 267, 0, 2242) := ⟨fun q => absurd q (by decide), fun q => absurd q (by decide), fun _ => ⟨by decide, by
  show Cond.methodLink _ _ (mN 267) ∈ GW
  unfold mN
  rw [mX_267]
  exact ml_12390⟩⟩
set_option maxRecDepth 100000 in
theorem mp_12358 : PM2 (12358, 258, 0, 2246) := ⟨fun q => absurd q (by decide), fun q => absurd q (by decide), fun _ => ⟨by decide, by
  show Cond.methodLink _ _ (mN 258) ∈ GW
  unfold mN
  rw [mX_258]
  exact ml_12358⟩⟩
set_option maxRecDepth 100000 in
theorem mp_12362 : PM2 (12362, 235, 0, 2250) := ⟨fun q => absurd q (by decide), fun q => absurd q (by decide), fun _ => ⟨by decide, by
  show Cond.methodLink _ _ (mN 235) ∈ GW
  unfold mN
  rw [mX_235]
  exact ml_12362⟩⟩
set_option maxRecDepth 100000 in
theorem mp_12240 : PM2 (12240, 234, 0, 2254) := ⟨fun q => absurd q (by decide), fun q => absurd q (by decide), fun _ => ⟨by decide, by
  show Cond.methodLink _ _ (mN 234) ∈ GW
  unfold mN
  rw [mX_234]
  exact ml_12240⟩⟩
set_option maxRecDepth 100000 in
theorem mp_12365 : PM2 (12365, 264, 0, 2258) := ⟨fun q => absurd q (by decide), fun q => absurd q (by decide), fun _ => ⟨by decide, by
  show Cond.methodLink _ _ (mN 264) ∈ GW
  unfold mN
  rw [mX_264]
  exact ml_12365⟩⟩
set_option maxRecDepth 100000 in
theorem mp_12347 : PM2 (12347, 262, 0, 2262) := ⟨fun q => absurd q (by decide), fun q => absurd q (by decide), fun _ => ⟨by decide, by
  show Cond.methodLink _ _ (mN 262) ∈ GW
  unfold mN
  rw [mX_262]
  exact ml_12347⟩⟩
set_option maxRecDepth 100000 in
theorem mp_12337 : PM2 (12337, 259, 0, 2266) := ⟨fun q => absurd q (by decide), fun q => absurd q (by decide), fun _ => ⟨by decide, by
  show Cond.methodLink _ _ (mN 259) ∈ GW
  unfold mN
  rw [mX_259]
  exact ml_12337⟩⟩
set_option maxRecDepth 100000 in
theorem mp_12340 : PM2 (12340, 260, 0, 2270) := ⟨fun q => absurd q (by decide), fun q => absurd q (by decide), fun _ => ⟨by decide, by
  show Cond.methodLink _ _ (mN 260) ∈ GW
  unfold mN
  rw [mX_260]
  exact ml_12340⟩⟩
set_option maxRecDepth 100000 in
theorem mp_12344 : PM2 (12344, 261, 0, 2274) := ⟨fun q => absurd q (by decide), fun q => absurd q (by decide), fun _ => ⟨by decide, by
  show Cond.methodLink _ _ (mN 261) ∈ GW
  unfold mN
  rw [mX_261]
  exact ml_12344⟩⟩
set_option maxRecDepth 100000 in
theorem mp_12351 : PM2 (12351, 263, 0, 2278) := ⟨fun q => absurd q (by decide), fun q => absurd q (by decide), fun _ => ⟨by decide, by
  show Cond.methodLink _ _ (mN 263) ∈ GW
  unfold mN
  rw [mX_263]
  exact ml_12351⟩⟩
set_option maxRecDepth 100000 in
theorem mp_12369 : PM2 (12369, 266, 0, 2282) := ⟨fun q => absurd q (by decide), fun q => absurd q (by decide), fun _ => ⟨by decide, by
  show Cond.methodLink _ _ (mN 266) ∈ GW
  unfold mN
  rw [mX_266]
  exact ml_12369⟩⟩
set_option maxRecDepth 100000 in
theorem mp_12355 : PM2 (12355, 265, 0, 2286) := ⟨fun q => absurd q (by decide), fun q => absurd q (by decide), fun _ => ⟨by decide, by
  show Cond.methodLink _ _ (mN 265) ∈ GW
  unfold mN
  rw [mX_265]
  exact ml_12355⟩⟩
set_option maxRecDepth 100000 in
theorem mp_12546 : PM2 (12546, 295, 0, 2290) := ⟨fun q => absurd q (by decide), fun q => absurd q (by decide), fun _ => ⟨by decide, by
  show Cond.methodLink _ _ (mN 295) ∈ GW
  unfold mN
  rw [mX_295]
  exact ml_12546⟩⟩
set_option maxRecDepth 100000 in
theorem mp_12549 : PM2 (12549, 297, 0, 2294) := ⟨fun q => absurd q (by decide), fun q => absurd q (by decide), fun _ => ⟨by decide, by
  show Cond.methodLink _ _ (mN 297) ∈ GW
  unfold mN
  rw [mX_297]
  exact ml_12549⟩⟩
set_option maxRecDepth 100000 in
theorem mp_12455 : PM2 (12455, 296, 0, 2298) := ⟨fun q => absurd q (by decide), fun q => absurd q (by decide), fun _ => ⟨by decide, by
  show Cond.methodLink _ _ (mN 296) ∈ GW
  unfold mN
  rw [mX_296]
  exact ml_12455⟩⟩
set_option maxRecDepth 100000 in
theorem mp_12552 : PM2 (12552, 298, 0, 2302) := ⟨fun q => absurd q (by decide), fun q => absurd q (by decide), fun _ => ⟨by decide, by
  show Cond.methodLink _ _ (mN 298) ∈ GW
  unfold mN
  rw [mX_298]
  exact ml_12552⟩⟩
set_option maxRecDepth 100000 in
theorem mp_12555 : PM2 (12555, 299, 0, 2306) := ⟨fun q => absurd q (by decide), fun q => absurd q (by decide), fun _ => ⟨by decide, by
  show Cond.methodLink _ _ (mN 299) ∈ GW
  unfold mN
  rw [mX_299]
  exact ml_12555⟩⟩
set_option maxRecDepth 100000 in
theorem mp_12558 : PM2 (12558, 320, 0, 2310) := ⟨fun q => absurd q (by decide), fun q => absurd q (by decide), fun _ => ⟨by decide, by
  show Cond.methodLink _ _ (mN 320) ∈ GW
  unfold mN
  rw [mX_320]
  exact ml_12558⟩⟩
set_option maxRecDepth 100000 in
theorem mp_12562 : PM2 (12562, 301, 0, 2314) := ⟨fun q => absurd q (by decide), fun q => absurd q (by decide), fun _ => ⟨by decide, by
  show Cond.methodLink _ _ (mN 301) ∈ GW
  unfold mN
  rw [mX_301]
  exact ml_12562⟩⟩
set_option maxRecDepth 100000 in
theorem mp_12458 : PM2 (12458, 300, 0, 2318) := ⟨fun q => absurd q (by decide), fun q => absurd q (by decide), fun _ => ⟨by decide, by
  show Cond.methodLink _ _ (mN 300) ∈ GW
  unfold mN
  rw [mX_300]
  exact ml_12458⟩⟩
set_option maxRecDepth 100000 in
theorem mp_12419 : PM2 (12419, 217, 1, 2322) := ⟨fun q => absurd q (by decide), fun q => absurd q (by decide), fun _ => ⟨by decide, by
  show Cond.methodLink _ _ (mN 217) ∈ GW
  unfold mN
  rw [mX_217]
  exact ml_12419⟩⟩
set_option maxRecDepth 100000 in
theorem mp_12565 : PM2 (12565, 302, 0, 2325) := ⟨fun q => absurd q (by decide), fun q => absurd q (by decide), fun _ => ⟨by decide, by
  show Cond.methodLink _ _ (mN 302) ∈ GW
  unfold mN
  rw [mX_302]
  exact ml_12565⟩⟩
set_option maxRecDepth 100000 in
theorem mp_12461 : PM2 (12461, 303, 0, 2329) := ⟨fun q => absurd q (by decide), fun q => absurd q (by decide), fun _ => ⟨by decide, by
  show Cond.methodLink _ _ (mN 303) ∈ GW
  unfold mN
  rw [mX_303]
  exact ml_12461⟩⟩
set_option maxRecDepth 100000 in
theorem mp_12568 : PM2 (12568, 305, 0, 2333) := ⟨fun q => absurd q (by decide), fun q => absurd q (by decide), fun _ => ⟨by decide, by
  show Cond.methodLink _ _ (mN 305) ∈ GW
  unfold mN
  rw [mX_305]
  exact ml_12568⟩⟩
set_option maxRecDepth 100000 in
theorem mp_12468 : PM2 (12468, 304, 1, 2339) := ⟨fun q => absurd q (by decide), fun q => absurd q (by decide), fun _ => ⟨by decide, by
  show Cond.methodLink _ _ (mN 304) ∈ GW
  unfold mN
  rw [mX_304]
  exact ml_12468⟩⟩
set_option maxRecDepth 100000 in
theorem mp_12471 : PM2 (12471, 306, 1, 2342) := ⟨fun q => absurd q (by decide), fun q => absurd q (by decide), fun _ => ⟨by decide, by
  show Cond.methodLink _ _ (mN 306) ∈ GW
  unfold mN
  rw [mX_306]
  exact ml_12471⟩⟩
set_option maxRecDepth 100000 in
theorem mp_12571 : PM2 (12571, 308, 0, 2345) := ⟨fun q => absurd q (by decide), fun q => absurd q (by decide), fun _ => ⟨by decide, by
  show Cond.methodLink _ _ (mN 308) ∈ GW
  unfold mN
  rw [mX_308]
  exact ml_12571⟩⟩
set_option maxRecDepth 100000 in
theorem mp_12475 : PM2 (12475, 279, 0, 2349) := ⟨fun q => absurd q (by decide), fun q => absurd q (by decide), fun _ => ⟨by decide, by
  show Cond.methodLink _ _ (mN 279) ∈ GW
  unfold mN
  rw [mX_279]
  exact ml_12475⟩⟩
set_option maxRecDepth 100000 in
theorem mp_12411 : PM2 (12411, 276, 0, 2353) := ⟨fun q => absurd q (by decide), fun q => absurd q (by decide), fun _ => ⟨by decide, by
  show Cond.methodLink _ _ (mN 276) ∈ GW
  unfold mN
  rw [mX_276]
  exact ml_12411⟩⟩
set_option maxRecDepth 100000 in
theorem mp_12399 : PM2 (12399, 275, 0, 2357) := ⟨fun q => absurd q (by decide), fun q => absurd q (by decide), fun _ => ⟨by decide, by
  show Cond.methodLink _ _ (mN 275) ∈ GW
  unfold mN
  rw [mX_275]
  exact ml_12399⟩⟩
set_option maxRecDepth 100000 in
theorem mp_12414 : PM2 (12414, 278, 0, 2363) := ⟨fun q => absurd q (by decide), fun q => absurd q (by decide), fun _ => ⟨by decide, by
  show Cond.methodLink _ _ (mN 278) ∈ GW
  unfold mN
  rw [mX_278]
  exact ml_12414⟩⟩
set_option maxRecDepth 100000 in
theorem mp_12407 : PM2 (12407, 277, 0, 2367) := ⟨fun q => absurd q (by decide), fun q => absurd q (by decide), fun _ => ⟨by decide, by
  show Cond.methodLink _ _ (mN 277) ∈ GW
  unfold mN
  rw [mX_277]
  exact ml_12407⟩⟩
set_option maxRecDepth 100000 in
theorem mp_12479 : PM2 (12479, 307, 0, 2372) := ⟨fun q => absurd q (by decide), fun q => absurd q (by decide), fun _ => ⟨by decide, by
  show Cond.methodLink _ _ (mN 307) ∈ GW
  unfold mN
  rw [mX_307]
  exact ml_12479⟩⟩
set_option maxRecDepth 100000 in
theorem mp_12575 : PM2 (12575, 309, 0, 2376) := ⟨fun q => absurd q (by decide), fun q => absurd q (by decide), fun _ => ⟨by decide, by
  show Cond.methodLink _ _ (mN 309) ∈ GW
  unfold mN
  rw [mX_309]
  exact ml_12575⟩⟩
set_option maxRecDepth 100000 in
theorem mp_12578 : PM2 (12578, 310, 0, 2380) := ⟨fun q => absurd q (by decide), fun q => absurd q (by decide), fun _ => ⟨by decide, by
  show Cond.methodLink _ _ (mN 310) ∈ GW
  unfold mN
  rw [mX_310]
  exact ml_12578⟩⟩
set_option maxRecDepth 100000 in
theorem mp_12581 : PM2 (12581, 311, 0, 2384) := ⟨fun q => absurd q (by decide), fun q => absurd q (by decide), fun _ => ⟨by decide, by
  show Cond.methodLink _ _ (mN 311) ∈ GW
  unfold mN
  rw [mX_311]
  exact ml_12581⟩⟩
set_option maxRecDepth 100000 in
theorem mp_12584 : PM2 (12584, 316, 0, 2388) := ⟨fun q => absurd q (by decide), fun q => absurd q (by decide), fun _ => ⟨by decide, by
  show Cond.methodLink _ _ (mN 316) ∈ GW
  unfold mN
  rw [mX_316]
  exact ml_12584⟩⟩
set_option maxRecDepth 100000 in
theorem mp_12489 : PM2 (12489, 313, 0, 2392) := ⟨fun q => absurd q (by decide), fun q => absurd q (by decide), fun _ => ⟨by decide, by
  show Cond.methodLink _ _ (mN 313) ∈ GW
  unfold mN
  rw [mX_313]
  exact ml_12489⟩⟩
set_option maxRecDepth 100000 in
theorem mp_12492 : PM2 (12492, 317, 0, 2396) := ⟨fun q => absurd q (by decide), fun q => absurd q (by decide), fun _ => ⟨by decide, by
  show Cond.methodLink _ _ (mN 317) ∈ GW
  unfold mN
  rw [mX_317]
  exact ml_12492⟩⟩
set_option maxRecDepth 100000 in
theorem mp_12495 : PM2 (12495, 315, 0, 2400) := ⟨fun q => absurd q (by decide), fun q => absurd q (by decide), fun _ => ⟨by decide, by
  show Cond.methodLink _ _ (mN 315) ∈ GW
  unfold mN
  rw [mX_315]
  exact ml_12495⟩⟩
set_option maxRecDepth 100000 in
theorem mp_12499 : PM2 (12499, 314, 0, 2404) := ⟨fun q => absurd q (by decide), fun q => absurd q (by decide), fun _ => ⟨by decide, by
  show Cond.methodLink _ _ (mN 314) ∈ GW
  unfold mN
  rw [mX_314]
  exact ml_12499⟩⟩
set_option maxRecDepth 100000 in
theorem mp_12503 : PM2 (12503, 318, 0, 2408) := ⟨fun q => absurd q (by decide), fun q => absurd q (by decide), fun _ => ⟨by decide, by
  show Cond.methodLink _ _ (mN 318) ∈ GW
  unfold mN
  rw [mX_318]
  exact ml_12503⟩⟩
set_option maxRecDepth 100000 in
theorem mp_12506 : PM2 (12506, 312, 0, 2412) := ⟨fun q => absurd q (by decide), fun q => absurd q (by decide), fun _ => ⟨by decide, by
  show Cond.methodLink _ _ (mN 312) ∈ GW
  unfold mN
  rw [mX_312]
  exact ml_12506⟩⟩
set_option maxRecDepth 100000 in
theorem mp_13165 : PM2 (13165, 323, 0, 2416) := ⟨fun q => absurd q (by decide), fun q => absurd q (by decide), fun _ => ⟨by decide, by
  show Cond.methodLink _ _ (mN 323) ∈ GW
  unfold mN
  rw [mX_323]
  exact ml_13165⟩⟩
set_option maxRecDepth 100000 in
theorem mp_13169 : PM2 (13169, 324, 0, 2420) := ⟨fun q => absurd q (by decide), fun q => absurd q (by decide), fun _ => ⟨by decide, by
  show Cond.methodLink _ _ (mN 324) ∈ GW
  unfold mN
  rw [mX_324]
  exact ml_13169⟩⟩
set_option maxRecDepth 100000 in
theorem mp_13172 : PM2 (13172, 325, 0, 2424) := ⟨fun q => absurd q (by decide), fun q => absurd q (by decide), fun _ => ⟨by decide, by
  show Cond.methodLink _ _ (mN 325) ∈ GW
  unfold mN
  rw [mX_325]
  exact ml_13172⟩⟩
set_option maxRecDepth 100000 in
theorem mp_13175 : PM2 (13175, 326, 0, 2428) := ⟨fun q => absurd q (by decide), fun q => absurd q (by decide), fun _ => ⟨by decide, by
  show Cond.methodLink _ _ (mN 326) ∈ GW
  unfold mN
  rw [mX_326]
  exact ml_13175⟩⟩
set_option maxRecDepth 100000 in
theorem mp_13178 : PM2 (13178, 327, 0, 2432) := ⟨fun q => absurd q (by decide), fun q => absurd q (by decide), fun _ => ⟨by decide, by
  show Cond.methodLink _ _ (mN 327) ∈ GW
  unfold mN
  rw [mX_327]
  exact ml_13178⟩⟩
set_option maxRecDepth 100000 in
theorem mp_13182 : PM2 (13182, 328, 0, 2436) := ⟨fun q => absurd q (by decide), fun q => absurd q (by decide), fun _ => ⟨by decide, by
  show Cond.methodLink _ _ (mN 328) ∈ GW
  unfold mN
  rw [mX_328]
  exact ml_13182⟩⟩
set_option maxRecDepth 100000 in
theorem mp_13186 : PM2 (13186, 329, 0, 2440) := ⟨fun q => absurd q (by decide), fun q => absurd q (by decide), fun _ => ⟨by decide, by
  show Cond.methodLink _ _ (mN 329) ∈ GW
  unfold mN
  rw [mX_329]
  exact ml_13186⟩⟩
set_option maxRecDepth 100000 in
theorem mp_13190 : PM2 (13190, 330, 0, 2444) := ⟨fun q => absurd q (by decide), fun q => absurd q (by decide), fun _ => ⟨by decide, by
  show Cond.methodLink _ _ (mN 330) ∈ GW
  unfold mN
  rw [mX_330]
  exact ml_13190⟩⟩
set_option maxRecDepth 100000 in
theorem mp_13193 : PM2 (13193, 331, 0, 2448) := ⟨fun q => absurd q (by decide), fun q => absurd q (by decide), fun _ => ⟨by decide, by
  show Cond.methodLink _ _ (mN 331) ∈ GW
  unfold mN
  rw [mX_331]
  exact ml_13193⟩⟩
set_option maxRecDepth 100000 in
theorem mp_13196 : PM2 (13196, 332, 0, 2452) := ⟨fun q => absurd q (by decide), fun q => absurd q (by decide), fun _ => ⟨by decide, by
  show Cond.methodLink _ _ (mN 332) ∈ GW
  unfold mN
  rw [mX_332]
  exact ml_13196⟩⟩
set_option maxRecDepth 100000 in
theorem mp_13199 : PM2 (13199, 333, 0, 2456) := ⟨fun q => absurd q (by decide), fun q => absurd q (by decide), fun _ => ⟨by decide, by
  show Cond.methodLink _ _ (mN 333) ∈ GW
  unfold mN
  rw [mX_333]
  exact ml_13199⟩⟩
set_option maxRecDepth 100000 in
theorem mp_13202 : PM2 (13202, 334, 0, 2460) := ⟨fun q => absurd q (by decide), fun q => absurd q (by decide), fun _ => ⟨by decide, by
  show Cond.methodLink _ _ (mN 334) ∈ GW
  unfold mN
  rw [mX_334]
  exact ml_13202⟩⟩
set_option maxRecDepth 100000 in
theorem mp_13206 : PM2 (13206, 335, 0, 2464) := ⟨fun q => absurd q (by decide), fun q => absurd q (by decide), fun _ => ⟨by decide, by
  show Cond.methodLink _ _ (mN 335) ∈ GW
  unfold mN
  rw [mX_335]
  exact ml_13206⟩⟩
set_option maxRecDepth 100000 in
theorem mp_13209 : PM2 (13209, 336, 0, 2468) := ⟨fun q => absurd q (by decide), fun q => absurd q (by decide), fun _ => ⟨by decide, by
  show Cond.methodLink _ _ (mN 336) ∈ GW
  unfold mN
  rw [mX_336]
  exact ml_13209⟩⟩
set_option maxRecDepth 100000 in
theorem mp_13212 : PM2 (13212, 337, 0, 2472) := ⟨fun q => absurd q (by decide), fun q => absurd q (by decide), fun _ => ⟨by decide, by
  show Cond.methodLink _ _ (mN 337) ∈ GW
  unfold mN
  rw [mX_337]
  exact ml_13212⟩⟩
set_option maxRecDepth 100000 in
theorem mp_13216 : PM2 (13216, 338, 0, 2476) := ⟨fun q => absurd q (by decide), fun q => absurd q (by decide), fun _ => ⟨by decide, by
  show Cond.methodLink _ _ (mN 338) ∈ GW
  unfold mN
  rw [mX_338]
  exact ml_13216⟩⟩
set_option maxRecDepth 100000 in
theorem mp_13219 : PM2 (13219, 339, 0, 2480) := ⟨fun q => absurd q (by decide), fun q => absurd q (by decide), fun _ => ⟨by decide, by
  show Cond.methodLink _ _ (mN 339) ∈ GW
  unfold mN
  rw [mX_339]
  exact ml_13219⟩⟩
set_option maxRecDepth 100000 in
theorem mp_13222 : PM2 (13222, 340, 0, 2484) := ⟨fun q => absurd q (by decide), fun q => absurd q (by decide), fun _ => ⟨by decide, by
  show Cond.methodLink _ _ (mN 340) ∈ GW
  unfold mN
  rw [mX_340]
  exact ml_13222⟩⟩
set_option maxRecDepth 100000 in
theorem mp_13225 : PM2 (13225, 341, 0, 2488) := ⟨fun q => absurd q (by decide), fun q => absurd q (by decide), fun _ => ⟨by decide, by
  show Cond.methodLink _ _ (mN 341) ∈ GW
  unfold mN
  rw [mX_341]
  exact ml_13225⟩⟩
set_option maxRecDepth 100000 in
theorem mp_13228 : PM2 (13228, 342, 0, 2492) := ⟨fun q => absurd q (by decide), fun q => absurd q (by decide), fun _ => ⟨by decide, by
  show Cond.methodLink _ _ (mN 342) ∈ GW
  unfold mN
  rw [mX_342]
  exact ml_13228⟩⟩
set_option maxRecDepth 100000 in
theorem mp_13231 : PM2 (13231, 343, 0, 2496) := ⟨fun q => absurd q (by decide), fun q => absurd q (by decide), fun _ => ⟨by decide, by
  show Cond.methodLink _ _ (mN 343) ∈ GW
  unfold mN
  rw [mX_343]
  exact ml_13231⟩⟩
set_option maxRecDepth 100000 in
theorem mp_13234 : PM2 (13234, 344, 0, 2500) := ⟨fun q => absurd q (by decide), fun q => absurd q (by decide), fun _ => ⟨by decide, by
  show Cond.methodLink _ _ (mN 344) ∈ GW
  unfold mN
  rw [mX_344]
  exact ml_13234⟩⟩
set_option maxRecDepth 100000 in
theorem mp_13237 : PM2 (13237, 345, 0, 2504) := ⟨fun q => absurd q (by decide), fun q => absurd q (by decide), fun _ => ⟨by decide, by
  show Cond.methodLink _ _ (mN 345) ∈ GW
  unfold mN
  rw [mX_345]
  exact ml_13237⟩⟩
set_option maxRecDepth 100000 in
theorem mp_13240 : PM2 (13240, 346, 0, 2508) := ⟨fun q => absurd q (by decide), fun q => absurd q (by decide), fun _ => ⟨by decide, by
  show Cond.methodLink _ _ (mN 346) ∈ GW
  unfold mN
  rw [mX_346]
  exact ml_13240⟩⟩
set_option maxRecDepth 100000 in
theorem mp_13243 : PM2 (13243, 347, 0, 2512) := ⟨fun q => absurd q (by decide), fun q => absurd q (by decide), fun _ => ⟨by decide, by
  show Cond.methodLink _ _ (mN 347) ∈ GW
  unfold mN
  rw [mX_347]
  exact ml_13243⟩⟩
set_option maxRecDepth 100000 in
theorem mp_13246 : PM2 (13246, 348, 0, 2516) := ⟨fun q => absurd q (by decide), fun q => absurd q (by decide), fun _ => ⟨by decide, by
  show Cond.methodLink _ _ (mN 348) ∈ GW
  unfold mN
  rw [mX_348]
  exact ml_13246⟩⟩
set_option maxRecDepth 100000 in
theorem mp_13250 : PM2 (13250, 349, 0, 2520) := ⟨fun q => absurd q (by decide), fun q => absurd q (by decide), fun _ => ⟨by decide, by
  show Cond.methodLink _ _ (mN 349) ∈ GW
  unfold mN
  rw [mX_349]
  exact ml_13250⟩⟩
set_option maxRecDepth 100000 in
theorem mp_13254 : PM2 (13254, 350, 0, 2524) := ⟨fun q => absurd q (by decide), fun q => absurd q (by decide), fun _ => ⟨by decide, by
  show Cond.methodLink _ _ (mN 350) ∈ GW
  unfold mN
  rw [mX_350]
  exact ml_13254⟩⟩
set_option maxRecDepth 100000 in
theorem mp_13258 : PM2 (13258, 351, 0, 2528) := ⟨fun q => absurd q (by decide), fun q => absurd q (by decide), fun _ => ⟨by decide, by
  show Cond.methodLink _ _ (mN 351) ∈ GW
  unfold mN
  rw [mX_351]
  exact ml_13258⟩⟩
set_option maxRecDepth 100000 in
theorem mp_13261 : PM2 (13261, 352, 0, 2532) := ⟨fun q => absurd q (by decide), fun q => absurd q (by decide), fun _ => ⟨by decide, by
  show Cond.methodLink _ _ (mN 352) ∈ GW
  unfold mN
  rw [mX_352]
  exact ml_13261⟩⟩
set_option maxRecDepth 100000 in
theorem mp_12601 : PM2 (12601, 365, 0, 2536) := ⟨fun q => absurd q (by decide), fun q => absurd q (by decide), fun _ => ⟨by decide, by
  show Cond.methodLink _ _ (mN 365) ∈ GW
  unfold mN
  rw [mX_365]
  exact ml_12601⟩⟩
set_option maxRecDepth 100000 in
theorem mp_13265 : PM2 (13265, 353, 0, 2540) := ⟨fun q => absurd q (by decide), fun q => absurd q (by decide), fun _ => ⟨by decide, by
  show Cond.methodLink _ _ (mN 353) ∈ GW
  unfold mN
  rw [mX_353]
  exact ml_13265⟩⟩
set_option maxRecDepth 100000 in
theorem mp_12604 : PM2 (12604, 355, 0, 2544) := ⟨fun q => absurd q (by decide), fun q => absurd q (by decide), fun _ => ⟨by decide, by
  show Cond.methodLink _ _ (mN 355) ∈ GW
  unfold mN
  rw [mX_355]
  exact ml_12604⟩⟩
set_option maxRecDepth 100000 in
theorem mp_12607 : PM2 (12607, 354, 0, 2548) := ⟨fun q => absurd q (by decide), fun q => absurd q (by decide), fun _ => ⟨by decide, by
  show Cond.methodLink _ _ (mN 354) ∈ GW
  unfold mN
  rw [mX_354]
  exact ml_12607⟩⟩
set_option maxRecDepth 100000 in
theorem mp_13268 : PM2 (13268, 355, 0, 2552) := ⟨fun q => absurd q (by decide), fun q => absurd q (by decide), fun _ => ⟨by decide, by
  show Cond.methodLink _ _ (mN 355) ∈ GW
  unfold mN
  rw [mX_355]
  exact ml_13268⟩⟩
set_option maxRecDepth 100000 in
theorem mp_13271 : PM2 (13271, 356, 0, 2553) := ⟨fun q => absurd q (by decide), fun q => absurd q (by decide), fun _ => ⟨by decide, by
  show Cond.methodLink _ _ (mN 356) ∈ GW
  unfold mN
  rw [mX_356]
  exact ml_13271⟩⟩
set_option maxRecDepth 100000 in
theorem mp_13275 : PM2 (13275, 357, 0, 2557) := ⟨fun q => absurd q (by decide), fun q => absurd q (by decide), fun _ => ⟨by decide, by
  show Cond.methodLink _ _ (mN 357) ∈ GW
  unfold mN
  rw [mX_357]
  exact ml_13275⟩⟩
set_option maxRecDepth 100000 in
theorem mp_13278 : PM2 (13278, 358, 0, 2561) := ⟨fun q => absurd q (by decide), fun q => absurd q (by decide), fun _ => ⟨by decide, by
  show Cond.methodLink _ _ (mN 358) ∈ GW
  unfold mN
  rw [mX_358]
  exact ml_13278⟩⟩
set_option maxRecDepth 100000 in
theorem mp_13281 : PM2 (13281, 359, 0, 2565) := ⟨fun q => absurd q (by decide), fun q => absurd q (by decide), fun _ => ⟨by decide, by
  show Cond.methodLink _ _ (mN 359) ∈ GW
  unfold mN
  rw [mX_359]
  exact ml_13281⟩⟩
set_option maxRecDepth 100000 in
theorem mp_13284 : PM2 (13284, 360, 0, 2569) := ⟨fun q => absurd q (by decide), fun q => absurd q (by decide), fun _ => ⟨by decide, by
  show Cond.methodLink _ _ (mN 360) ∈ GW
  unfold mN
  rw [mX_360]
  exact ml_13284⟩⟩
set_option maxRecDepth 100000 in
theorem mp_13287 : PM2 (13287, 361, 0, 2573) := ⟨fun q => absurd q (by decide), fun q => absurd q (by decide), fun _ => ⟨by decide, by
  show Cond.methodLink _ _ (mN 361) ∈ GW
  unfold mN
  rw [mX_361]
  exact ml_13287⟩⟩
set_option maxRecDepth 100000 in
theorem mp_13290 : PM2 (13290, 362, 0, 2577) := ⟨fun q => absurd q (by decide), fun q => absurd q (by decide), fun _ => ⟨by decide, by
  show Cond.methodLink _ _ (mN 362) ∈ GW
  unfold mN
  rw [mX_362]
  exact ml_13290⟩⟩
set_option maxRecDepth 100000 in
theorem mp_13294 : PM2 (13294, 363, 0, 2581) := ⟨fun q => absurd q (by decide), fun q => absurd q (by decide), fun _ => ⟨by decide, by
  show Cond.methodLink _ _ (mN 363) ∈ GW
  unfold mN
  rw [mX_363]
  exact ml_13294⟩⟩
set_option maxRecDepth 100000 in
theorem mp_13297 : PM2 (13297, 364, 0, 2585) := ⟨fun q => absurd q (by decide), fun q => absurd q (by decide), fun _ => ⟨by decide, by
  show Cond.methodLink _ _ (mN 364) ∈ GW
  unfold mN
  rw [mX_364]
  exact ml_13297⟩⟩
set_option maxRecDepth 100000 in
theorem mp_13300 : PM2 (13300, 365, 0, 2589) := ⟨fun q => absurd q (by decide), fun q => absurd q (by decide), fun _ => ⟨by decide, by
  show Cond.methodLink _ _ (mN 365) ∈ GW
  unfold mN
  rw [mX_365]
  exact ml_13300⟩⟩
set_option maxRecDepth 100000 in
theorem mp_13303 : PM2 (13303, 366, 0, 2590) := ⟨fun q => absurd q (by decide), fun q => absurd q (by decide), fun _ => ⟨by decide, by
  show Cond.methodLink _ _ (mN 366) ∈ GW
  unfold mN
  rw [mX_366]
  exact ml_13303⟩⟩
set_option maxRecDepth 100000 in
theorem mp_13306 : PM2 (13306, 367, 0, 2594) := ⟨fun q => absurd q (by decide), fun q => absurd q (by decide), fun _ => ⟨by decide, by
  show Cond.methodLink _ _ (mN 367) ∈ GW
  unfold mN
  rw [mX_367]
  exact ml_13306⟩⟩
set_option maxRecDepth 100000 in
theorem mp_13309 : PM2 (13309, 368, 0, 2598) := ⟨fun q => absurd q (by decide), fun q => absurd q (by decide), fun _ => ⟨by decide, by
  show Cond.methodLink _ _ (mN 368) ∈ GW
  unfold mN
  rw [mX_368]
  exact ml_13309⟩⟩
set_option maxRecDepth 100000 in
theorem mp_13313 : PM2 (13313, 369, 0, 2602) := ⟨fun q => absurd q (by decide), fun q => absurd q (by decide), fun _ => ⟨by decide, by
  show Cond.methodLink _ _ (mN 369) ∈ GW
  unfold mN
  rw [mX_369]
  exact ml_13313⟩⟩
set_option maxRecDepth 100000 in
theorem mpL_0 : ∀ z ∈ mT_0, PM2 z := List.forall_mem_cons.mpr ⟨mp_13149, List.forall_mem_cons.mpr ⟨mp_11001, List.forall_mem_cons.mpr ⟨mp_11009, List.forall_mem_cons.mpr ⟨mp_5003, List.forall_mem_cons.mpr ⟨mp_5011, List.forall_mem_cons.mpr ⟨mp_1003, List.forall_mem_cons.mpr ⟨mp_5016, List.forall_mem_cons.mpr ⟨mp_7003, List.forall_mem_cons.mpr ⟨mp_7023, List.forall_mem_cons.mpr ⟨mp_3, List.forall_mem_cons.mpr ⟨mp_7026, List.forall_mem_cons.mpr ⟨mp_4001, List.forall_mem_cons.mpr ⟨mp_5027, List.forall_mem_cons.mpr ⟨mp_5031, List.forall_mem_cons.mpr ⟨mp_6003, List.forall_mem_cons.mpr ⟨mp_6021, List.forall_mem_cons.mpr ⟨mp_10003, List.forall_mem_cons.mpr ⟨mp_5040, List.forall_mem_cons.mpr ⟨mp_8003, List.forall_mem_cons.mpr ⟨mp_5049, List.forall_mem_cons.mpr ⟨mp_3001, List.forall_mem_cons.mpr ⟨mp_5056, List.forall_mem_cons.mpr ⟨mp_2003, List.forall_mem_cons.mpr ⟨mp_2030, List.forall_mem_cons.mpr ⟨mp_9001, List.forall_mem_cons.mpr ⟨mp_5061, List.forall_mem_cons.mpr ⟨mp_5064, List.forall_mem_cons.mpr ⟨mp_6024, List.forall_mem_cons.mpr ⟨mp_1022, List.forall_mem_cons.mpr ⟨mp_5065, List.forall_mem_cons.mpr ⟨mp_7029, List.forall_mem_cons.mpr ⟨mp_5066, List.forall_mem_cons.mpr ⟨mp_2031, List.forall_mem_cons.mpr ⟨mp_9023, List.forall_mem_cons.mpr ⟨mp_13247, List.forall_mem_cons.mpr ⟨mp_13251, List.forall_mem_cons.mpr ⟨mp_11193, List.forall_mem_cons.mpr ⟨mp_11080, List.forall_mem_cons.mpr ⟨mp_11274, List.forall_mem_cons.mpr ⟨mp_5087, List.forall_mem_cons.mpr ⟨mp_5099, List.forall_mem_cons.mpr ⟨mp_6048, List.forall_mem_cons.mpr ⟨mp_10043, List.forall_mem_cons.mpr ⟨mp_5103, List.forall_mem_cons.mpr ⟨mp_8042, List.forall_mem_cons.mpr ⟨mp_8059, List.forall_mem_cons.mpr ⟨mp_8063, List.forall_mem_cons.mpr ⟨mp_1057, List.forall_mem_cons.mpr ⟨mp_5112, List.forall_mem_cons.mpr ⟨mp_5151, List.forall_mem_cons.mpr ⟨mp_6058, List.forall_mem_cons.mpr ⟨mp_10087, List.forall_mem_cons.mpr ⟨mp_6065, List.forall_mem_cons.mpr ⟨mp_5154, List.forall_mem_cons.mpr ⟨mp_8075, List.forall_mem_cons.mpr ⟨mp_6072, List.forall_mem_cons.mpr ⟨mp_6079, List.forall_mem_cons.mpr ⟨mp_8080, List.forall_mem_cons.mpr ⟨mp_8084, List.forall_mem_cons.mpr ⟨mp_8091, List.forall_mem_cons.mpr ⟨mp_8095, List.forall_mem_cons.mpr ⟨mp_8128, List.forall_mem_cons.mpr ⟨mp_8137, List.forall_mem_cons.mpr ⟨mp_8141, List.forall_mem_cons.mpr ⟨mp_8099, List.forall_mem_cons.mpr ⟨mp_8145, List.forall_mem_cons.mpr ⟨mp_7040, List.forall_mem_cons.mpr ⟨mp_7049, List.forall_mem_cons.mpr ⟨mp_8151, List.forall_mem_cons.mpr ⟨mp_8155, List.forall_mem_cons.mpr ⟨mp_8103, List.forall_mem_cons.mpr ⟨mp_8107, List.forall_mem_cons.mpr ⟨mp_8116, List.forall_mem_cons.mpr ⟨mp_11278, List.forall_mem_cons.mpr ⟨mp_11282, List.forall_mem_cons.mpr ⟨mp_11286, List.forall_mem_cons.mpr ⟨mp_11289, List.forall_mem_cons.mpr ⟨mp_11292, List.forall_mem_cons.mpr ⟨mp_5131, List.forall_mem_cons.mpr ⟨mp_11295, List.forall_mem_cons.mpr ⟨mp_6126, List.forall_mem_cons.mpr ⟨mp_11038, List.forall_mem_cons.mpr ⟨mp_11298, List.forall_mem_cons.mpr ⟨mp_11301, List.forall_mem_cons.mpr ⟨mp_11150, List.forall_mem_cons.mpr ⟨mp_11304, List.forall_mem_cons.mpr ⟨mp_11307, List.forall_mem_cons.mpr ⟨mp_50, List.forall_mem_cons.mpr ⟨mp_11311, List.forall_mem_cons.mpr ⟨mp_11315, List.forall_mem_cons.mpr ⟨mp_5160, List.forall_mem_cons.mpr ⟨mp_6157, List.forall_mem_cons.mpr ⟨mp_5170, List.forall_mem_cons.mpr ⟨mp_8159, List.forall_mem_cons.mpr ⟨mp_8195, List.forall_mem_cons.mpr ⟨mp_8199, List.forall_mem_cons.mpr ⟨mp_8203, List.forall_mem_cons.mpr ⟨mp_8207, List.forall_mem_cons.mpr ⟨mp_8172, List.forall_mem_cons.mpr ⟨mp_8183, fun _ h => absurd h List.not_mem_nil⟩⟩⟩⟩⟩⟩⟩⟩⟩⟩⟩⟩⟩⟩⟩⟩⟩⟩⟩⟩⟩⟩⟩⟩⟩⟩⟩⟩⟩⟩⟩⟩⟩⟩⟩⟩⟩⟩⟩⟩⟩⟩⟩⟩⟩⟩⟩⟩⟩⟩⟩⟩⟩⟩⟩⟩⟩⟩⟩⟩⟩⟩⟩⟩⟩⟩⟩⟩⟩⟩⟩⟩⟩⟩⟩⟩⟩⟩⟩⟩⟩⟩⟩⟩⟩⟩⟩⟩⟩⟩⟩⟩⟩⟩⟩⟩⟩⟩⟩⟩
set_option maxRecDepth 100000 in
theorem mpL_1 : ∀ z ∈ mT_1, PM2 z := List.forall_mem_cons.mpr ⟨mp_8187, List.forall_mem_cons.mpr ⟨mp_8191, List.forall_mem_cons.mpr ⟨mp_8179, List.forall_mem_cons.mpr ⟨mp_5174, List.forall_mem_cons.mpr ⟨mp_5228, List.forall_mem_cons.mpr ⟨mp_6182, List.forall_mem_cons.mpr ⟨mp_5232, List.forall_mem_cons.mpr ⟨mp_7053, List.forall_mem_cons.mpr ⟨mp_7059, List.forall_mem_cons.mpr ⟨mp_5239, List.forall_mem_cons.mpr ⟨mp_3017, List.forall_mem_cons.mpr ⟨mp_3036, List.forall_mem_cons.mpr ⟨mp_6083, List.forall_mem_cons.mpr ⟨mp_3045, List.forall_mem_cons.mpr ⟨mp_3066, List.forall_mem_cons.mpr ⟨mp_3070, List.forall_mem_cons.mpr ⟨mp_3052, List.forall_mem_cons.mpr ⟨mp_3058, List.forall_mem_cons.mpr ⟨mp_3085, List.forall_mem_cons.mpr ⟨mp_3062, List.forall_mem_cons.mpr ⟨mp_3090, List.forall_mem_cons.mpr ⟨mp_3094, List.forall_mem_cons.mpr ⟨mp_3098, List.forall_mem_cons.mpr ⟨mp_5243, List.forall_mem_cons.mpr ⟨mp_5247, List.forall_mem_cons.mpr ⟨mp_6194, List.forall_mem_cons.mpr ⟨mp_6197, List.forall_mem_cons.mpr ⟨mp_6208, List.forall_mem_cons.mpr ⟨mp_6212, List.forall_mem_cons.mpr ⟨mp_6215, List.forall_mem_cons.mpr ⟨mp_6201, List.forall_mem_cons.mpr ⟨mp_6191, List.forall_mem_cons.mpr ⟨mp_11318, List.forall_mem_cons.mpr ⟨mp_11321, List.forall_mem_cons.mpr ⟨mp_5177, List.forall_mem_cons.mpr ⟨mp_7071, List.forall_mem_cons.mpr ⟨mp_5181, List.forall_mem_cons.mpr ⟨mp_5188, List.forall_mem_cons.mpr ⟨mp_11324, List.forall_mem_cons.mpr ⟨mp_11327, List.forall_mem_cons.mpr ⟨mp_7095, List.forall_mem_cons.mpr ⟨mp_11331, List.forall_mem_cons.mpr ⟨mp_7115, List.forall_mem_cons.mpr ⟨mp_7102, List.forall_mem_cons.mpr ⟨mp_7107, List.forall_mem_cons.mpr ⟨mp_7111, List.forall_mem_cons.mpr ⟨mp_7119, List.forall_mem_cons.mpr ⟨mp_11335, List.forall_mem_cons.mpr ⟨mp_7125, List.forall_mem_cons.mpr ⟨mp_7128, List.forall_mem_cons.mpr ⟨mp_11338, List.forall_mem_cons.mpr ⟨mp_5192, List.forall_mem_cons.mpr ⟨mp_6134, List.forall_mem_cons.mpr ⟨mp_5195, List.forall_mem_cons.mpr ⟨mp_7144, List.forall_mem_cons.mpr ⟨mp_5201, List.forall_mem_cons.mpr ⟨mp_5212, List.forall_mem_cons.mpr ⟨mp_5218, List.forall_mem_cons.mpr ⟨mp_5208, List.forall_mem_cons.mpr ⟨mp_7131, List.forall_mem_cons.mpr ⟨mp_7141, List.forall_mem_cons.mpr ⟨mp_14143, List.forall_mem_cons.mpr ⟨mp_11341, List.forall_mem_cons.mpr ⟨mp_2086, List.forall_mem_cons.mpr ⟨mp_11344, List.forall_mem_cons.mpr ⟨mp_11347, List.forall_mem_cons.mpr ⟨mp_2051, List.forall_mem_cons.mpr ⟨mp_2069, List.forall_mem_cons.mpr ⟨mp_2107, List.forall_mem_cons.mpr ⟨mp_2133, List.forall_mem_cons.mpr ⟨mp_2058, List.forall_mem_cons.mpr ⟨mp_2090, List.forall_mem_cons.mpr ⟨mp_2045, List.forall_mem_cons.mpr ⟨mp_2080, List.forall_mem_cons.mpr ⟨mp_2093, List.forall_mem_cons.mpr ⟨mp_2101, List.forall_mem_cons.mpr ⟨mp_2062, List.forall_mem_cons.mpr ⟨mp_2118, List.forall_mem_cons.mpr ⟨mp_2125, List.forall_mem_cons.mpr ⟨mp_2128, List.forall_mem_cons.mpr ⟨mp_11350, List.forall_mem_cons.mpr ⟨mp_11353, List.forall_mem_cons.mpr ⟨mp_5221, List.forall_mem_cons.mpr ⟨mp_5224, List.forall_mem_cons.mpr ⟨mp_11356, List.forall_mem_cons.mpr ⟨mp_11359, List.forall_mem_cons.mpr ⟨mp_2142, List.forall_mem_cons.mpr ⟨mp_2146, List.forall_mem_cons.mpr ⟨mp_2159, List.forall_mem_cons.mpr ⟨mp_2150, List.forall_mem_cons.mpr ⟨mp_2169, List.forall_mem_cons.mpr ⟨mp_2180, List.forall_mem_cons.mpr ⟨mp_2173, List.forall_mem_cons.mpr ⟨mp_2177, List.forall_mem_cons.mpr ⟨mp_2183, List.forall_mem_cons.mpr ⟨mp_2190, List.forall_mem_cons.mpr ⟨mp_2153, List.forall_mem_cons.mpr ⟨mp_11362, List.forall_mem_cons.mpr ⟨mp_13255, List.forall_mem_cons.mpr ⟨mp_13272, fun _ h => absurd h List.not_mem_nil⟩⟩⟩⟩⟩⟩⟩⟩⟩⟩⟩⟩⟩⟩⟩⟩⟩⟩⟩⟩⟩⟩⟩⟩⟩⟩⟩⟩⟩⟩⟩⟩⟩⟩⟩⟩⟩⟩⟩⟩⟩⟩⟩⟩⟩⟩⟩⟩⟩⟩⟩⟩⟩⟩⟩⟩⟩⟩⟩⟩⟩⟩⟩⟩⟩⟩⟩⟩⟩⟩⟩⟩⟩⟩⟩⟩⟩⟩⟩⟩⟩⟩⟩⟩⟩⟩⟩⟩⟩⟩⟩⟩⟩⟩⟩⟩⟩⟩⟩⟩
set_option maxRecDepth 100000 in
theorem mpL_2 : ∀ z ∈ mT_2, PM2 z := List.forall_mem_cons.mpr ⟨mp_11091, List.forall_mem_cons.mpr ⟨mp_13291, List.forall_mem_cons.mpr ⟨mp_13310, List.forall_mem_cons.mpr ⟨mp_13153, List.forall_mem_cons.mpr ⟨mp_13007, List.forall_mem_cons.mpr ⟨mp_11023, List.forall_mem_cons.mpr ⟨mp_11059, List.forall_mem_cons.mpr ⟨mp_11027, List.forall_mem_cons.mpr ⟨mp_11030, List.forall_mem_cons.mpr ⟨mp_11044, List.forall_mem_cons.mpr ⟨mp_11049, List.forall_mem_cons.mpr ⟨mp_11052, List.forall_mem_cons.mpr ⟨mp_11063, List.forall_mem_cons.mpr ⟨mp_11070, List.forall_mem_cons.mpr ⟨mp_5073, List.forall_mem_cons.mpr ⟨mp_5083, List.forall_mem_cons.mpr ⟨mp_5091, List.forall_mem_cons.mpr ⟨mp_6087, List.forall_mem_cons.mpr ⟨mp_6096, List.forall_mem_cons.mpr ⟨mp_6112, List.forall_mem_cons.mpr ⟨mp_6119, List.forall_mem_cons.mpr ⟨mp_6100, List.forall_mem_cons.mpr ⟨mp_6105, List.forall_mem_cons.mpr ⟨mp_11073, List.forall_mem_cons.mpr ⟨mp_11076, List.forall_mem_cons.mpr ⟨mp_13162, List.forall_mem_cons.mpr ⟨mp_13019, List.forall_mem_cons.mpr ⟨mp_13166, List.forall_mem_cons.mpr ⟨mp_13023, List.forall_mem_cons.mpr ⟨mp_13170, List.forall_mem_cons.mpr ⟨mp_13027, List.forall_mem_cons.mpr ⟨mp_13173, List.forall_mem_cons.mpr ⟨mp_13030, List.forall_mem_cons.mpr ⟨mp_11084, List.forall_mem_cons.mpr ⟨mp_13176, List.forall_mem_cons.mpr ⟨mp_13033, List.forall_mem_cons.mpr ⟨mp_11087, List.forall_mem_cons.mpr ⟨mp_13179, List.forall_mem_cons.mpr ⟨mp_13036, List.forall_mem_cons.mpr ⟨mp_11112, List.forall_mem_cons.mpr ⟨mp_13183, List.forall_mem_cons.mpr ⟨mp_13040, List.forall_mem_cons.mpr ⟨mp_13187, List.forall_mem_cons.mpr ⟨mp_13044, List.forall_mem_cons.mpr ⟨mp_13191, List.forall_mem_cons.mpr ⟨mp_13048, List.forall_mem_cons.mpr ⟨mp_13194, List.forall_mem_cons.mpr ⟨mp_13051, List.forall_mem_cons.mpr ⟨mp_13197, List.forall_mem_cons.mpr ⟨mp_13054, List.forall_mem_cons.mpr ⟨mp_13200, List.forall_mem_cons.mpr ⟨mp_13057, List.forall_mem_cons.mpr ⟨mp_13203, List.forall_mem_cons.mpr ⟨mp_13060, List.forall_mem_cons.mpr ⟨mp_11115, List.forall_mem_cons.mpr ⟨mp_13207, List.forall_mem_cons.mpr ⟨mp_13064, List.forall_mem_cons.mpr ⟨mp_11119, List.forall_mem_cons.mpr ⟨mp_11270, List.forall_mem_cons.mpr ⟨mp_13210, List.forall_mem_cons.mpr ⟨mp_13067, List.forall_mem_cons.mpr ⟨mp_13213, List.forall_mem_cons.mpr ⟨mp_13070, List.forall_mem_cons.mpr ⟨mp_13217, List.forall_mem_cons.mpr ⟨mp_13074, List.forall_mem_cons.mpr ⟨mp_11145, List.forall_mem_cons.mpr ⟨mp_13220, List.forall_mem_cons.mpr ⟨mp_13077, List.forall_mem_cons.mpr ⟨mp_11154, List.forall_mem_cons.mpr ⟨mp_13223, List.forall_mem_cons.mpr ⟨mp_13080, List.forall_mem_cons.mpr ⟨mp_11157, List.forall_mem_cons.mpr ⟨mp_7135, List.forall_mem_cons.mpr ⟨mp_13226, List.forall_mem_cons.mpr ⟨mp_13083, List.forall_mem_cons.mpr ⟨mp_13229, List.forall_mem_cons.mpr ⟨mp_13086, List.forall_mem_cons.mpr ⟨mp_13232, List.forall_mem_cons.mpr ⟨mp_13089, List.forall_mem_cons.mpr ⟨mp_11160, List.forall_mem_cons.mpr ⟨mp_11167, List.forall_mem_cons.mpr ⟨mp_13235, List.forall_mem_cons.mpr ⟨mp_13092, List.forall_mem_cons.mpr ⟨mp_11172, List.forall_mem_cons.mpr ⟨mp_13238, List.forall_mem_cons.mpr ⟨mp_13095, List.forall_mem_cons.mpr ⟨mp_11181, List.forall_mem_cons.mpr ⟨mp_13241, List.forall_mem_cons.mpr ⟨mp_13098, List.forall_mem_cons.mpr ⟨mp_13244, List.forall_mem_cons.mpr ⟨mp_13101, List.forall_mem_cons.mpr ⟨mp_13259, List.forall_mem_cons.mpr ⟨mp_13104, List.forall_mem_cons.mpr ⟨mp_13262, List.forall_mem_cons.mpr ⟨mp_13107, List.forall_mem_cons.mpr ⟨mp_11199, List.forall_mem_cons.mpr ⟨mp_13266, List.forall_mem_cons.mpr ⟨mp_13111, List.forall_mem_cons.mpr ⟨mp_13269, List.forall_mem_cons.mpr ⟨mp_13114, fun _ h => absurd h List.not_mem_nil⟩⟩⟩⟩⟩⟩⟩⟩⟩⟩⟩⟩⟩⟩⟩⟩⟩⟩⟩⟩⟩⟩⟩⟩⟩⟩⟩⟩⟩⟩⟩⟩⟩⟩⟩⟩⟩⟩⟩⟩⟩⟩⟩⟩⟩⟩⟩⟩⟩⟩⟩⟩⟩⟩⟩⟩⟩⟩⟩⟩⟩⟩⟩⟩⟩⟩⟩⟩⟩⟩⟩⟩⟩⟩⟩⟩⟩⟩⟩⟩⟩⟩⟩⟩⟩⟩⟩⟩⟩⟩⟩⟩⟩⟩⟩⟩⟩⟩⟩⟩
set_option maxRecDepth 100000 in
theorem mpL_3 : ∀ z ∈ mT_3, PM2 z := List.forall_mem_cons.mpr ⟨mp_11203, List.forall_mem_cons.mpr ⟨mp_13276, List.forall_mem_cons.mpr ⟨mp_13117, List.forall_mem_cons.mpr ⟨mp_13279, List.forall_mem_cons.mpr ⟨mp_13120, List.forall_mem_cons.mpr ⟨mp_13282, List.forall_mem_cons.mpr ⟨mp_13123, List.forall_mem_cons.mpr ⟨mp_13285, List.forall_mem_cons.mpr ⟨mp_13126, List.forall_mem_cons.mpr ⟨mp_13288, List.forall_mem_cons.mpr ⟨mp_13129, List.forall_mem_cons.mpr ⟨mp_11229, List.forall_mem_cons.mpr ⟨mp_11235, List.forall_mem_cons.mpr ⟨mp_13295, List.forall_mem_cons.mpr ⟨mp_13132, List.forall_mem_cons.mpr ⟨mp_11242, List.forall_mem_cons.mpr ⟨mp_13298, List.forall_mem_cons.mpr ⟨mp_13135, List.forall_mem_cons.mpr ⟨mp_13301, List.forall_mem_cons.mpr ⟨mp_13138, List.forall_mem_cons.mpr ⟨mp_13304, List.forall_mem_cons.mpr ⟨mp_13142, List.forall_mem_cons.mpr ⟨mp_13307, List.forall_mem_cons.mpr ⟨mp_13145, List.forall_mem_cons.mpr ⟨mp_11252, List.forall_mem_cons.mpr ⟨mp_13152, List.forall_mem_cons.mpr ⟨mp_12001, List.forall_mem_cons.mpr ⟨mp_12177, List.forall_mem_cons.mpr ⟨mp_13159, List.forall_mem_cons.mpr ⟨mp_13158, List.forall_mem_cons.mpr ⟨mp_12594, List.forall_mem_cons.mpr ⟨mp_12587, List.forall_mem_cons.mpr ⟨mp_12509, List.forall_mem_cons.mpr ⟨mp_12429, List.forall_mem_cons.mpr ⟨mp_12209, List.forall_mem_cons.mpr ⟨mp_12334, List.forall_mem_cons.mpr ⟨mp_12432, List.forall_mem_cons.mpr ⟨mp_12213, List.forall_mem_cons.mpr ⟨mp_12435, List.forall_mem_cons.mpr ⟨mp_12423, List.forall_mem_cons.mpr ⟨mp_12426, List.forall_mem_cons.mpr ⟨mp_12224, List.forall_mem_cons.mpr ⟨mp_12232, List.forall_mem_cons.mpr ⟨mp_12228, List.forall_mem_cons.mpr ⟨mp_12328, List.forall_mem_cons.mpr ⟨mp_12438, List.forall_mem_cons.mpr ⟨mp_12244, List.forall_mem_cons.mpr ⟨mp_12248, List.forall_mem_cons.mpr ⟨mp_12305, List.forall_mem_cons.mpr ⟨mp_12442, List.forall_mem_cons.mpr ⟨mp_12446, List.forall_mem_cons.mpr ⟨mp_12331, List.forall_mem_cons.mpr ⟨mp_12322, List.forall_mem_cons.mpr ⟨mp_12301, List.forall_mem_cons.mpr ⟨mp_12309, List.forall_mem_cons.mpr ⟨mp_12312, List.forall_mem_cons.mpr ⟨mp_12251, List.forall_mem_cons.mpr ⟨mp_12315, List.forall_mem_cons.mpr ⟨mp_12319, List.forall_mem_cons.mpr ⟨mp_12280, List.forall_mem_cons.mpr ⟨mp_12258, List.forall_mem_cons.mpr ⟨mp_12283, List.forall_mem_cons.mpr ⟨mp_12254, List.forall_mem_cons.mpr ⟨mp_12261, List.forall_mem_cons.mpr ⟨mp_12287, List.forall_mem_cons.mpr ⟨mp_12265, List.forall_mem_cons.mpr ⟨mp_12290, List.forall_mem_cons.mpr ⟨mp_12293, List.forall_mem_cons.mpr ⟨mp_12297, List.forall_mem_cons.mpr ⟨mp_12269, List.forall_mem_cons.mpr ⟨mp_12236, List.forall_mem_cons.mpr ⟨mp_12273, List.forall_mem_cons.mpr ⟨mp_12217, List.forall_mem_cons.mpr ⟨mp_12221, List.forall_mem_cons.mpr ⟨mp_12277, List.forall_mem_cons.mpr ⟨mp_12325, List.forall_mem_cons.mpr ⟨mp_12513, List.forall_mem_cons.mpr ⟨mp_12516, List.forall_mem_cons.mpr ⟨mp_12520, List.forall_mem_cons.mpr ⟨mp_12523, List.forall_mem_cons.mpr ⟨mp_12526, List.forall_mem_cons.mpr ⟨mp_12529, List.forall_mem_cons.mpr ⟨mp_12449, List.forall_mem_cons.mpr ⟨mp_12532, List.forall_mem_cons.mpr ⟨mp_12536, List.forall_mem_cons.mpr ⟨mp_12540, List.forall_mem_cons.mpr ⟨mp_12543, List.forall_mem_cons.mpr ⟨mp_12452, List.forall_mem_cons.mpr ⟨mp_12393, List.forall_mem_cons.mpr ⟨mp_12396, List.forall_mem_cons.mpr ⟨mp_12384, List.forall_mem_cons.mpr ⟨mp_12378, List.forall_mem_cons.mpr ⟨mp_12387, List.forall_mem_cons.mpr ⟨mp_12381, List.forall_mem_cons.mpr ⟨mp_12390, List.forall_mem_cons.mpr ⟨mp_12358, List.forall_mem_cons.mpr ⟨mp_12362, List.forall_mem_cons.mpr ⟨mp_12240, List.forall_mem_cons.mpr ⟨mp_12365, List.forall_mem_cons.mpr ⟨mp_12347, fun _ h => absurd h List.not_mem_nil⟩⟩⟩⟩⟩⟩⟩⟩⟩⟩⟩⟩⟩⟩⟩⟩⟩⟩⟩⟩⟩⟩⟩⟩⟩⟩⟩⟩⟩⟩⟩⟩⟩⟩⟩⟩⟩⟩⟩⟩⟩⟩⟩⟩⟩⟩⟩⟩⟩⟩⟩⟩⟩⟩⟩⟩⟩⟩⟩⟩⟩⟩⟩⟩⟩⟩⟩⟩⟩⟩⟩⟩⟩⟩⟩⟩⟩⟩⟩⟩⟩⟩⟩⟩⟩⟩⟩⟩⟩⟩⟩⟩⟩⟩⟩⟩⟩⟩⟩⟩
set_option maxRecDepth 100000 in
theorem mpL_4 : ∀ z ∈ mT_4, PM2 z := List.forall_mem_cons.mpr ⟨mp_12337, List.forall_mem_cons.mpr ⟨mp_12340, List.forall_mem_cons.mpr ⟨mp_12344, List.forall_mem_cons.mpr ⟨mp_12351, List.forall_mem_cons.mpr ⟨mp_12369, List.forall_mem_cons.mpr ⟨mp_12355, List.forall_mem_cons.mpr ⟨mp_12546, List.forall_mem_cons.mpr ⟨mp_12549, List.forall_mem_cons.mpr ⟨mp_12455, List.forall_mem_cons.mpr ⟨mp_12552, List.forall_mem_cons.mpr ⟨mp_12555, List.forall_mem_cons.mpr ⟨mp_12558, List.forall_mem_cons.mpr ⟨mp_12562, List.forall_mem_cons.mpr ⟨mp_12458, List.forall_mem_cons.mpr ⟨mp_12419, List.forall_mem_cons.mpr ⟨mp_12565, List.forall_mem_cons.mpr ⟨mp_12461, List.forall_mem_cons.mpr ⟨mp_12568, List.forall_mem_cons.mpr ⟨mp_12468, List.forall_mem_cons.mpr ⟨mp_12471, List.forall_mem_cons.mpr ⟨mp_12571, List.forall_mem_cons.mpr ⟨mp_12475, List.forall_mem_cons.mpr ⟨mp_12411, List.forall_mem_cons.mpr ⟨mp_12399, List.forall_mem_cons.mpr ⟨mp_12414, List.forall_mem_cons.mpr ⟨mp_12407, List.forall_mem_cons.mpr ⟨mp_12479, List.forall_mem_cons.mpr ⟨mp_12575, List.forall_mem_cons.mpr ⟨mp_12578, List.forall_mem_cons.mpr ⟨mp_12581, List.forall_mem_cons.mpr ⟨mp_12584, List.forall_mem_cons.mpr ⟨mp_12489, List.forall_mem_cons.mpr ⟨mp_12492, List.forall_mem_cons.mpr ⟨mp_12495, List.forall_mem_cons.mpr ⟨mp_12499, List.forall_mem_cons.mpr ⟨mp_12503, List.forall_mem_cons.mpr ⟨mp_12506, List.forall_mem_cons.mpr ⟨mp_13165, List.forall_mem_cons.mpr ⟨mp_13169, List.forall_mem_cons.mpr ⟨mp_13172, List.forall_mem_cons.mpr ⟨mp_13175, List.forall_mem_cons.mpr ⟨mp_13178, List.forall_mem_cons.mpr ⟨mp_13182, List.forall_mem_cons.mpr ⟨mp_13186, List.forall_mem_cons.mpr ⟨mp_13190, List.forall_mem_cons.mpr ⟨mp_13193, List.forall_mem_cons.mpr ⟨mp_13196, List.forall_mem_cons.mpr ⟨mp_13199, List.forall_mem_cons.mpr ⟨mp_13202, List.forall_mem_cons.mpr ⟨mp_13206, List.forall_mem_cons.mpr ⟨mp_13209, List.forall_mem_cons.mpr ⟨mp_13212, List.forall_mem_cons.mpr ⟨mp_13216, List.forall_mem_cons.mpr ⟨mp_13219, List.forall_mem_cons.mpr ⟨mp_13222, List.forall_mem_cons.mpr ⟨mp_13225, List.forall_mem_cons.mpr ⟨mp_13228, List.forall_mem_cons.mpr ⟨mp_13231, List.forall_mem_cons.mpr ⟨mp_13234, List.forall_mem_cons.mpr ⟨mp_13237, List.forall_mem_cons.mpr ⟨mp_13240, List.forall_mem_cons.mpr ⟨mp_13243, List.forall_mem_cons.mpr ⟨mp_13246, List.forall_mem_cons.mpr ⟨mp_13250, List.forall_mem_cons.mpr ⟨mp_13254, List.forall_mem_cons.mpr ⟨mp_13258, List.forall_mem_cons.mpr ⟨mp_13261, List.forall_mem_cons.mpr ⟨mp_12601, List.forall_mem_cons.mpr ⟨mp_13265, List.forall_mem_cons.mpr ⟨mp_12604, List.forall_mem_cons.mpr ⟨mp_12607, List.forall_mem_cons.mpr ⟨mp_13268, List.forall_mem_cons.mpr ⟨mp_13271, List.forall_mem_cons.mpr ⟨mp_13275, List.forall_mem_cons.mpr ⟨mp_13278, List.forall_mem_cons.mpr ⟨mp_13281, List.forall_mem_cons.mpr ⟨mp_13284, List.forall_mem_cons.mpr ⟨mp_13287, List.forall_mem_cons.mpr ⟨mp_13290, List.forall_mem_cons.mpr ⟨mp_13294, List.forall_mem_cons.mpr ⟨mp_13297, List.forall_mem_cons.mpr ⟨mp_13300, List.forall_mem_cons.mpr ⟨mp_13303, List.forall_mem_cons.mpr ⟨mp_13306, List.forall_mem_cons.mpr ⟨mp_13309, List.forall_mem_cons.mpr ⟨mp_13313, fun _ h => absurd h List.not_mem_nil⟩⟩⟩⟩⟩⟩⟩⟩⟩⟩⟩⟩⟩⟩⟩⟩⟩⟩⟩⟩⟩⟩⟩⟩⟩⟩⟩⟩⟩⟩⟩⟩⟩⟩⟩⟩⟩⟩⟩⟩⟩⟩⟩⟩⟩⟩⟩⟩⟩⟩⟩⟩⟩⟩⟩⟩⟩⟩⟩⟩⟩⟩⟩⟩⟩⟩⟩⟩⟩⟩⟩⟩⟩⟩⟩⟩⟩⟩⟩⟩⟩⟩⟩⟩⟩⟩
set_option maxRecDepth 100000 in
theorem mT_ok2 : ∀ z ∈ mT, PM2 z := by
  intro z hz
  rcases List.mem_append.mp hz with hz | hz
  · exact mpL_0 z hz
  rcases List.mem_append.mp hz with hz | hz
  · exact mpL_1 z hz
  rcases List.mem_append.mp hz with hz | hz
  · exact mpL_2 z hz
  rcases List.mem_append.mp hz with hz | hz
  · exact mpL_3 z hz
  exact mpL_4 z hz
theorem pM_ok {o q c kd ps : Nat} (h : pM o q = some (c, kd, ps)) : (kd = 4 → Cond.methodLink (cN o) q objectInit ∈ GW) ∧ (kd = 3 → o = 2 ∧ q = 30 ∧ c = 139) ∧ (kd < 3 → c < 420 ∧ Cond.methodLink (cN o) q (mN c) ∈ GW) := by
  unfold pM at h
  by_cases hq : q < 1000
  · rw [if_pos hq] at h
    have h1 := mT_ok2 _ (lk_mem h)
    have h2 := key_div (o := o) hq
    unfold PM2 at h1
    dsimp only at h1
    rw [h2.1, h2.2] at h1
    exact ⟨h1.1, fun q9 => by have := h1.2.1 q9; exact ⟨by omega, by omega, this.2⟩, h1.2.2⟩
  · rw [if_neg hq] at h
    cases h
