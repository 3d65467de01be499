/-! the words of links and methods, gathered -/
def mSt (k : Nat) : Nat := (mX k).2.2.2.2.2.2.1
def hhK (k : Nat) : List (Nat × Nat × Nat × Nat) := match lk hT k with
  | some L => L.map fun q => (q.1, q.2.1, q.2.2.1, q.2.2.2.1)
  | none => []
/-- what is said of a method of the tables -/
def EM (k : Nat) : Prop := EMc (mN k) (mB k) (mO k) (mL k) (mR k) (mA k) (mSt k) ∧ ((lk hT k = none ∧ Cond.code (mN k) (mB k) (mL k) (mR k) ∈ GW) ∨ ((lk hT k).isSome = true ∧ Cond.codeWith (mN k) (mB k) (mL k) (mR k) (hhK k) ∈ GW)) ∧ 1 ≤ mF k ∧ 30 ≤ mQ k ∧ mO k < 15 ∧ mL k ≤ 22
set_option maxRecDepth 100000 in
theorem emk_0 : EM 0 := by
  unfold EM mN mB mO mL mR mA mSt mF mQ
  rw [mX_0]
  exact ⟨em_0, Or.inl ⟨rfl, ec_0⟩, by decide, by decide, by decide, by decide⟩
set_option maxRecDepth 100000 in
theorem emk_1 : EM 1 := by
  unfold EM mN mB mO mL mR mA mSt mF mQ
  rw [mX_1]
  exact ⟨em_1, Or.inl ⟨rfl, ec_1⟩, by decide, by decide, by decide, by decide⟩
set_option maxRecDepth 100000 in
theorem emk_2 : EM 2 := by
  unfold EM mN mB mO mL mR mA mSt mF mQ
  rw [mX_2]
  exact ⟨em_2, Or.inl ⟨rfl, ec_2⟩, by decide, by decide, by decide, by decide⟩
set_option maxRecDepth 100000 in
theorem emk_3 : EM 3 := by
  unfold EM mN mB mO mL mR mA mSt mF mQ
  rw [mX_3]
  exact ⟨em_3, Or.inl ⟨rfl, ec_3⟩, by decide, by decide, by decide, by decide⟩
set_option maxRecDepth 100000 in
theorem emk_4 : EM 4 := by
  unfold EM mN mB mO mL mR mA mSt mF mQ
  rw [mX_4]
  exact ⟨em_4, Or.inl ⟨rfl, ec_4⟩, by decide, by decide, by decide, by decide⟩
set_option maxRecDepth 100000 in
theorem emk_5 : EM 5 := by
  unfold EM mN mB mO mL mR mA mSt mF mQ
  rw [mX_5]
  exact ⟨em_5, Or.inl ⟨rfl, ec_5⟩, by decide, by decide, by decide, by decide⟩
set_option maxRecDepth 100000 in
theorem emk_6 : EM 6 := by
  unfold EM mN mB mO mL mR mA mSt mF mQ
  rw [mX_6]
  exact ⟨em_6, Or.inl ⟨rfl, ec_6⟩, by decide, by decide, by decide, by decide⟩
set_option maxRecDepth 100000 in
theorem emk_7 : EM 7 := by
  unfold EM mN mB mO mL mR mA mSt mF mQ
  rw [mX_7]
  exact ⟨em_7, Or.inl ⟨rfl, ec_7⟩, by decide, by decide, by decide, by decide⟩
set_option maxRecDepth 100000 in
theorem emk_8 : EM 8 := by
  unfold EM mN mB mO mL mR mA mSt mF mQ
  rw [mX_8]
  exact ⟨em_8, Or.inl ⟨rfl, ec_8⟩, by decide, by decide, by decide, by decide⟩
set_option maxRecDepth 100000 in
theorem emk_9 : EM 9 := by
  unfold EM mN mB mO mL mR mA mSt mF mQ
  rw [mX_9]
  exact ⟨em_9, Or.inl ⟨rfl, ec_9⟩, by decide, by decide, by decide, by decide⟩
set_option maxRecDepth 100000 in
theorem emk_10 : EM 10 := by
  unfold EM mN mB mO mL mR mA mSt mF mQ
  rw [mX_10]
  exact ⟨em_10, Or.inl ⟨rfl, ec_10⟩, by decide, by decide, by decide, by decide⟩
set_option maxRecDepth 100000 in
theorem emk_11 : EM 11 := by
  unfold EM mN mB mO mL mR mA mSt mF mQ
  rw [mX_11]
  exact ⟨em_11, Or.inl ⟨rfl, ec_11⟩, by decide, by decide, by decide, by decide⟩
set_option maxRecDepth 100000 in
theorem emk_12 : EM 12 := by
  unfold EM mN mB mO mL mR mA mSt mF mQ
  rw [mX_12]
  exact ⟨em_12, Or.inl ⟨rfl, ec_12⟩, by decide, by decide, by decide, by decide⟩
set_option maxRecDepth 100000 in
theorem emk_13 : EM 13 := by
  unfold EM mN mB mO mL mR mA mSt mF mQ
  rw [mX_13]
  exact ⟨em_13, Or.inl ⟨rfl, ec_13⟩, by decide, by decide, by decide, by decide⟩
set_option maxRecDepth 100000 in
theorem emk_14 : EM 14 := by
  unfold EM mN mB mO mL mR mA mSt mF mQ
  rw [mX_14]
  exact ⟨em_14, Or.inl ⟨rfl, ec_14⟩, by decide, by decide, by decide, by decide⟩
set_option maxRecDepth 100000 in
theorem emk_15 : EM 15 := by
  unfold EM mN mB mO mL mR mA mSt mF mQ
  rw [mX_15]
  exact ⟨em_15, Or.inl ⟨rfl, ec_15⟩, by decide, by decide, by decide, by decide⟩
set_option maxRecDepth 100000 in
theorem emk_16 : EM 16 := by
  unfold EM mN mB mO mL mR mA mSt mF mQ
  rw [mX_16]
  exact ⟨em_16, Or.inl ⟨rfl, ec_16⟩, by decide, by decide, by decide, by decide⟩
set_option maxRecDepth 100000 in
theorem emk_17 : EM 17 := by
  unfold EM mN mB mO mL mR mA mSt mF mQ
  rw [mX_17]
  exact ⟨em_17, Or.inl ⟨rfl, ec_17⟩, by decide, by decide, by decide, by decide⟩
set_option maxRecDepth 100000 in
theorem emk_18 : EM 18 := by
  unfold EM mN mB mO mL mR mA mSt mF mQ
  rw [mX_18]
  exact ⟨em_18, Or.inl ⟨rfl, ec_18⟩, by decide, by decide, by decide, by decide⟩
set_option maxRecDepth 100000 in
theorem emk_19 : EM 19 := by
  unfold EM mN mB mO mL mR mA mSt mF mQ
  rw [mX_19]
  exact ⟨em_19, Or.inl ⟨rfl, ec_19⟩, by decide, by decide, by decide, by decide⟩
set_option maxRecDepth 100000 in
theorem emk_20 : EM 20 := by
  unfold EM mN mB mO mL mR mA mSt mF mQ
  rw [mX_20]
  exact ⟨em_20, Or.inl ⟨rfl, ec_20⟩, by decide, by decide, by decide, by decide⟩
set_option maxRecDepth 100000 in
theorem emk_21 : EM 21 := by
  unfold EM mN mB mO mL mR mA mSt mF mQ
  rw [mX_21]
  exact ⟨em_21, Or.inl ⟨rfl, ec_21⟩, by decide, by decide, by decide, by decide⟩
set_option maxRecDepth 100000 in
theorem emk_22 : EM 22 := by
  unfold EM mN mB mO mL mR mA mSt mF mQ
  rw [mX_22]
  exact ⟨em_22, Or.inl ⟨rfl, ec_22⟩, by decide, by decide, by decide, by decide⟩
set_option maxRecDepth 100000 in
theorem emk_23 : EM 23 := by
  unfold EM mN mB mO mL mR mA mSt mF mQ
  rw [mX_23]
  exact ⟨em_23, Or.inl ⟨rfl, ec_23⟩, by decide, by decide, by decide, by decide⟩
set_option maxRecDepth 100000 in
theorem emk_24 : EM 24 := by
  unfold EM mN mB mO mL mR mA mSt mF mQ
  rw [mX_24]
  exact ⟨em_24, Or.inl ⟨rfl, ec_24⟩, by decide, by decide, by decide, by decide⟩
set_option maxRecDepth 100000 in
theorem emk_25 : EM 25 := by
  unfold EM mN mB mO mL mR mA mSt mF mQ
  rw [mX_25]
  exact ⟨em_25, Or.inl ⟨rfl, ec_25⟩, by decide, by decide, by decide, by decide⟩
set_option maxRecDepth 100000 in
theorem emk_26 : EM 26 := by
  unfold EM mN mB mO mL mR mA mSt mF mQ
  rw [mX_26]
  exact ⟨em_26, Or.inl ⟨rfl, ec_26⟩, by decide, by decide, by decide, by decide⟩
set_option maxRecDepth 100000 in
theorem emk_27 : EM 27 := by
  unfold EM mN mB mO mL mR mA mSt mF mQ
  rw [mX_27]
  exact ⟨em_27, Or.inl ⟨rfl, ec_27⟩, by decide, by decide, by decide, by decide⟩
set_option maxRecDepth 100000 in
theorem emk_28 : EM 28 := by
  unfold EM mN mB mO mL mR mA mSt mF mQ
  rw [mX_28]
  exact ⟨em_28, Or.inl ⟨rfl, ec_28⟩, by decide, by decide, by decide, by decide⟩
set_option maxRecDepth 100000 in
theorem emk_29 : EM 29 := by
  unfold EM mN mB mO mL mR mA mSt mF mQ
  rw [mX_29]
  exact ⟨em_29, Or.inl ⟨rfl, ec_29⟩, by decide, by decide, by decide, by decide⟩
set_option maxRecDepth 100000 in
theorem emk_30 : EM 30 := by
  unfold EM mN mB mO mL mR mA mSt mF mQ
  rw [mX_30]
  exact ⟨em_30, Or.inl ⟨rfl, ec_30⟩, by decide, by decide, by decide, by decide⟩
set_option maxRecDepth 100000 in
theorem emk_31 : EM 31 := by
  unfold EM mN mB mO mL mR mA mSt mF mQ
  rw [mX_31]
  exact ⟨em_31, Or.inl ⟨rfl, ec_31⟩, by decide, by decide, by decide, by decide⟩
set_option maxRecDepth 100000 in
theorem emk_32 : EM 32 := by
  unfold EM mN mB mO mL mR mA mSt mF mQ
  rw [mX_32]
  exact ⟨em_32, Or.inl ⟨rfl, ec_32⟩, by decide, by decide, by decide, by decide⟩
set_option maxRecDepth 100000 in
theorem emk_33 : EM 33 := by
  unfold EM mN mB mO mL mR mA mSt mF mQ
  rw [mX_33]
  exact ⟨em_33, Or.inl ⟨rfl, ec_33⟩, by decide, by decide, by decide, by decide⟩
set_option maxRecDepth 100000 in
theorem emk_34 : EM 34 := by
  unfold EM mN mB mO mL mR mA mSt mF mQ
  rw [mX_34]
  exact ⟨em_34, Or.inl ⟨rfl, ec_34⟩, by decide, by decide, by decide, by decide⟩
set_option maxRecDepth 100000 in
theorem emk_35 : EM 35 := by
  unfold EM mN mB mO mL mR mA mSt mF mQ
  rw [mX_35]
  exact ⟨em_35, Or.inl ⟨rfl, ec_35⟩, by decide, by decide, by decide, by decide⟩
set_option maxRecDepth 100000 in
theorem emk_36 : EM 36 := by
  unfold EM mN mB mO mL mR mA mSt mF mQ
  rw [mX_36]
  exact ⟨em_36, Or.inl ⟨rfl, ec_36⟩, by decide, by decide, by decide, by decide⟩
set_option maxRecDepth 100000 in
theorem emk_37 : EM 37 := by
  unfold EM mN mB mO mL mR mA mSt mF mQ
  rw [mX_37]
  exact ⟨em_37, Or.inl ⟨rfl, ec_37⟩, by decide, by decide, by decide, by decide⟩
set_option maxRecDepth 100000 in
theorem emk_38 : EM 38 := by
  unfold EM mN mB mO mL mR mA mSt mF mQ
  rw [mX_38]
  exact ⟨em_38, Or.inl ⟨rfl, ec_38⟩, by decide, by decide, by decide, by decide⟩
set_option maxRecDepth 100000 in
theorem emk_39 : EM 39 := by
  unfold EM mN mB mO mL mR mA mSt mF mQ
  rw [mX_39]
  exact ⟨em_39, Or.inl ⟨rfl, ec_39⟩, by decide, by decide, by decide, by decide⟩
set_option maxRecDepth 100000 in
theorem emk_40 : EM 40 := by
  unfold EM mN mB mO mL mR mA mSt mF mQ
  rw [mX_40]
  exact ⟨em_40, Or.inl ⟨rfl, ec_40⟩, by decide, by decide, by decide, by decide⟩
set_option maxRecDepth 100000 in
theorem emk_41 : EM 41 := by
  unfold EM mN mB mO mL mR mA mSt mF mQ
  rw [mX_41]
  exact ⟨em_41, Or.inl ⟨rfl, ec_41⟩, by decide, by decide, by decide, by decide⟩
set_option maxRecDepth 100000 in
theorem emk_42 : EM 42 := by
  unfold EM mN mB mO mL mR mA mSt mF mQ
  rw [mX_42]
  exact ⟨em_42, Or.inl ⟨rfl, ec_42⟩, by decide, by decide, by decide, by decide⟩
set_option maxRecDepth 100000 in
theorem emk_43 : EM 43 := by
  unfold EM mN mB mO mL mR mA mSt mF mQ
  rw [mX_43]
  exact ⟨em_43, Or.inl ⟨rfl, ec_43⟩, by decide, by decide, by decide, by decide⟩
set_option maxRecDepth 100000 in
theorem emk_44 : EM 44 := by
  unfold EM mN mB mO mL mR mA mSt mF mQ
  rw [mX_44]
  exact ⟨em_44, Or.inl ⟨rfl, ec_44⟩, by decide, by decide, by decide, by decide⟩
set_option maxRecDepth 100000 in
theorem emk_45 : EM 45 := by
  unfold EM mN mB mO mL mR mA mSt mF mQ
  rw [mX_45]
  exact ⟨em_45, Or.inl ⟨rfl, ec_45⟩, by decide, by decide, by decide, by decide⟩
set_option maxRecDepth 100000 in
theorem emk_46 : EM 46 := by
  unfold EM mN mB mO mL mR mA mSt mF mQ
  rw [mX_46]
  exact ⟨em_46, Or.inl ⟨rfl, ec_46⟩, by decide, by decide, by decide, by decide⟩
set_option maxRecDepth 100000 in
theorem emk_47 : EM 47 := by
  unfold EM mN mB mO mL mR mA mSt mF mQ
  rw [mX_47]
  exact ⟨em_47, Or.inl ⟨rfl, ec_47⟩, by decide, by decide, by decide, by decide⟩
set_option maxRecDepth 100000 in
theorem emk_48 : EM 48 := by
  unfold EM mN mB mO mL mR mA mSt mF mQ
  rw [mX_48]
  exact ⟨em_48, Or.inl ⟨rfl, ec_48⟩, by decide, by decide, by decide, by decide⟩
set_option maxRecDepth 100000 in
theorem emk_49 : EM 49 := by
  unfold EM mN mB mO mL mR mA mSt mF mQ
  rw [mX_49]
  exact ⟨em_49, Or.inl ⟨rfl, ec_49⟩, by decide, by decide, by decide, by decide⟩
set_option maxRecDepth 100000 in
theorem emk_50 : EM 50 := by
  unfold EM mN mB mO mL mR mA mSt mF mQ
  rw [mX_50]
  exact ⟨em_50, Or.inl ⟨rfl, ec_50⟩, by decide, by decide, by decide, by decide⟩
set_option maxRecDepth 100000 in
theorem emk_51 : EM 51 := by
  unfold EM mN mB mO mL mR mA mSt mF mQ
  rw [mX_51]
  exact ⟨em_51, Or.inl ⟨rfl, ec_51⟩, by decide, by decide, by decide, by decide⟩
set_option maxRecDepth 100000 in
theorem emk_52 : EM 52 := by
  unfold EM mN mB mO mL mR mA mSt mF mQ
  rw [mX_52]
  exact ⟨em_52, Or.inl ⟨rfl, ec_52⟩, by decide, by decide, by decide, by decide⟩
set_option maxRecDepth 100000 in
theorem emk_53 : EM 53 := by
  unfold EM mN mB mO mL mR mA mSt mF mQ
  rw [mX_53]
  exact ⟨em_53, Or.inl ⟨rfl, ec_53⟩, by decide, by decide, by decide, by decide⟩
set_option maxRecDepth 100000 in
theorem emk_54 : EM 54 := by
  unfold EM mN mB mO mL mR mA mSt mF mQ
  rw [mX_54]
  exact ⟨em_54, Or.inl ⟨rfl, ec_54⟩, by decide, by decide, by decide, by decide⟩
set_option maxRecDepth 100000 in
theorem emk_55 : EM 55 := by
  unfold EM mN mB mO mL mR mA mSt mF mQ
  rw [mX_55]
  exact ⟨em_55, Or.inl ⟨rfl, ec_55⟩, by decide, by decide, by decide, by decide⟩
set_option maxRecDepth 100000 in
theorem emk_56 : EM 56 := by
  unfold EM mN mB mO mL mR mA mSt mF mQ
  rw [mX_56]
  exact ⟨em_56, Or.inl ⟨rfl, ec_56⟩, by decide, by decide, by decide, by decide⟩
set_option maxRecDepth 100000 in
theorem emk_57 : EM 57 := by
  unfold EM mN mB mO mL mR mA mSt mF mQ
  rw [mX_57]
  exact ⟨em_57, Or.inl ⟨rfl, ec_57⟩, by decide, by decide, by decide, by decide⟩
set_option maxRecDepth 100000 in
theorem emk_58 : EM 58 := by
  unfold EM mN mB mO mL mR mA mSt mF mQ
  rw [mX_58]
  exact ⟨em_58, Or.inl ⟨rfl, ec_58⟩, by decide, by decide, by decide, by decide⟩
set_option maxRecDepth 100000 in
theorem emk_59 : EM 59 := by
  unfold EM mN mB mO mL mR mA mSt mF mQ
  rw [mX_59]
  exact ⟨em_59, Or.inl ⟨rfl, ec_59⟩, by decide, by decide, by decide, by decide⟩
set_option maxRecDepth 100000 in
theorem emk_60 : EM 60 := by
  unfold EM mN mB mO mL mR mA mSt mF mQ
  rw [mX_60]
  exact ⟨em_60, Or.inl ⟨rfl, ec_60⟩, by decide, by decide, by decide, by decide⟩
set_option maxRecDepth 100000 in
theorem emk_61 : EM 61 := by
  unfold EM mN mB mO mL mR mA mSt mF mQ
  rw [mX_61]
  exact ⟨em_61, Or.inl ⟨rfl, ec_61⟩, by decide, by decide, by decide, by decide⟩
set_option maxRecDepth 100000 in
theorem emk_62 : EM 62 := by
  unfold EM mN mB mO mL mR mA mSt mF mQ
  rw [mX_62]
  exact ⟨em_62, Or.inl ⟨rfl, ec_62⟩, by decide, by decide, by decide, by decide⟩
set_option maxRecDepth 100000 in
theorem emk_63 : EM 63 := by
  unfold EM mN mB mO mL mR mA mSt mF mQ
  rw [mX_63]
  exact ⟨em_63, Or.inl ⟨rfl, ec_63⟩, by decide, by decide, by decide, by decide⟩
set_option maxRecDepth 100000 in
theorem emk_64 : EM 64 := by
  unfold EM mN mB mO mL mR mA mSt mF mQ
  rw [mX_64]
  exact ⟨em_64, Or.inl ⟨rfl, ec_64⟩, by decide, by decide, by decide, by decide⟩
set_option maxRecDepth 100000 in
theorem emk_65 : EM 65 := by
  unfold EM mN mB mO mL mR mA mSt mF mQ
  rw [mX_65]
  exact ⟨em_65, Or.inl ⟨rfl, ec_65⟩, by decide, by decide, by decide, by decide⟩
set_option maxRecDepth 100000 in
theorem emk_66 : EM 66 := by
  unfold EM mN mB mO mL mR mA mSt mF mQ
  rw [mX_66]
  exact ⟨em_66, Or.inl ⟨rfl, ec_66⟩, by decide, by decide, by decide, by decide⟩
set_option maxRecDepth 100000 in
theorem emk_67 : EM 67 := by
  unfold EM mN mB mO mL mR mA mSt mF mQ
  rw [mX_67]
  exact ⟨em_67, Or.inl ⟨rfl, ec_67⟩, by decide, by decide, by decide, by decide⟩
set_option maxRecDepth 100000 in
theorem emk_68 : EM 68 := by
  unfold EM mN mB mO mL mR mA mSt mF mQ
  rw [mX_68]
  exact ⟨em_68, Or.inl ⟨rfl, ec_68⟩, by decide, by decide, by decide, by decide⟩
set_option maxRecDepth 100000 in
theorem emk_69 : EM 69 := by
  unfold EM mN mB mO mL mR mA mSt mF mQ
  rw [mX_69]
  exact ⟨em_69, Or.inl ⟨rfl, ec_69⟩, by decide, by decide, by decide, by decide⟩
set_option maxRecDepth 100000 in
theorem emk_70 : EM 70 := by
  unfold EM mN mB mO mL mR mA mSt mF mQ
  rw [mX_70]
  exact ⟨em_70, Or.inl ⟨rfl, ec_70⟩, by decide, by decide, by decide, by decide⟩
set_option maxRecDepth 100000 in
theorem emk_71 : EM 71 := by
  unfold EM mN mB mO mL mR mA mSt mF mQ
  rw [mX_71]
  exact ⟨em_71, Or.inl ⟨rfl, ec_71⟩, by decide, by decide, by decide, by decide⟩
set_option maxRecDepth 100000 in
theorem emk_72 : EM 72 := by
  unfold EM mN mB mO mL mR mA mSt mF mQ
  rw [mX_72]
  exact ⟨em_72, Or.inl ⟨rfl, ec_72⟩, by decide, by decide, by decide, by decide⟩
set_option maxRecDepth 100000 in
theorem emk_73 : EM 73 := by
  unfold EM mN mB mO mL mR mA mSt mF mQ
  rw [mX_73]
  exact ⟨em_73, Or.inl ⟨rfl, ec_73⟩, by decide, by decide, by decide, by decide⟩
set_option maxRecDepth 100000 in
theorem emk_74 : EM 74 := by
  unfold EM mN mB mO mL mR mA mSt mF mQ
  rw [mX_74]
  exact ⟨em_74, Or.inl ⟨rfl, ec_74⟩, by decide, by decide, by decide, by decide⟩
set_option maxRecDepth 100000 in
theorem emk_75 : EM 75 := by
  unfold EM mN mB mO mL mR mA mSt mF mQ
  rw [mX_75]
  exact ⟨em_75, Or.inl ⟨rfl, ec_75⟩, by decide, by decide, by decide, by decide⟩
set_option maxRecDepth 100000 in
theorem emk_76 : EM 76 := by
  unfold EM mN mB mO mL mR mA mSt mF mQ
  rw [mX_76]
  exact ⟨em_76, Or.inl ⟨rfl, ec_76⟩, by decide, by decide, by decide, by decide⟩
set_option maxRecDepth 100000 in
theorem emk_77 : EM 77 := by
  unfold EM mN mB mO mL mR mA mSt mF mQ
  rw [mX_77]
  exact ⟨em_77, Or.inl ⟨rfl, ec_77⟩, by decide, by decide, by decide, by decide⟩
set_option maxRecDepth 100000 in
theorem emk_78 : EM 78 := by
  unfold EM mN mB mO mL mR mA mSt mF mQ
  rw [mX_78]
  exact ⟨em_78, Or.inl ⟨rfl, ec_78⟩, by decide, by decide, by decide, by decide⟩
set_option maxRecDepth 100000 in
theorem emk_79 : EM 79 := by
  unfold EM mN mB mO mL mR mA mSt mF mQ
  rw [mX_79]
  exact ⟨em_79, Or.inl ⟨rfl, ec_79⟩, by decide, by decide, by decide, by decide⟩
set_option maxRecDepth 100000 in
theorem emk_80 : EM 80 := by
  unfold EM mN mB mO mL mR mA mSt mF mQ
  rw [mX_80]
  exact ⟨em_80, Or.inl ⟨rfl, ec_80⟩, by decide, by decide, by decide, by decide⟩
set_option maxRecDepth 100000 in
theorem emk_81 : EM 81 := by
  unfold EM mN mB mO mL mR mA mSt mF mQ
  rw [mX_81]
  exact ⟨em_81, Or.inl ⟨rfl, ec_81⟩, by decide, by decide, by decide, by decide⟩
set_option maxRecDepth 100000 in
theorem emk_82 : EM 82 := by
  unfold EM mN mB mO mL mR mA mSt mF mQ
  rw [mX_82]
  exact ⟨em_82, Or.inl ⟨rfl, ec_82⟩, by decide, by decide, by decide, by decide⟩
set_option maxRecDepth 100000 in
theorem emk_83 : EM 83 := by
  unfold EM mN mB mO mL mR mA mSt mF mQ
  rw [mX_83]
  exact ⟨em_83, Or.inl ⟨rfl, ec_83⟩, by decide, by decide, by decide, by decide⟩
set_option maxRecDepth 100000 in
theorem emk_84 : EM 84 := by
  unfold EM mN mB mO mL mR mA mSt mF mQ
  rw [mX_84]
  exact ⟨em_84, Or.inl ⟨rfl, ec_84⟩, by decide, by decide, by decide, by decide⟩
set_option maxRecDepth 100000 in
theorem emk_85 : EM 85 := by
  unfold EM mN mB mO mL mR mA mSt mF mQ
  rw [mX_85]
  exact ⟨em_85, Or.inl ⟨rfl, ec_85⟩, by decide, by decide, by decide, by decide⟩
set_option maxRecDepth 100000 in
theorem emk_86 : EM 86 := by
  unfold EM mN mB mO mL mR mA mSt mF mQ
  rw [mX_86]
  exact ⟨em_86, Or.inl ⟨rfl, ec_86⟩, by decide, by decide, by decide, by decide⟩
set_option maxRecDepth 100000 in
theorem emk_87 : EM 87 := by
  unfold EM mN mB mO mL mR mA mSt mF mQ
  rw [mX_87]
  exact ⟨em_87, Or.inl ⟨rfl, ec_87⟩, by decide, by decide, by decide, by decide⟩
set_option maxRecDepth 100000 in
theorem emk_88 : EM 88 := by
  unfold EM mN mB mO mL mR mA mSt mF mQ
  rw [mX_88]
  exact ⟨em_88, Or.inl ⟨rfl, ec_88⟩, by decide, by decide, by decide, by decide⟩
set_option maxRecDepth 100000 in
theorem emk_89 : EM 89 := by
  unfold EM mN mB mO mL mR mA mSt mF mQ
  rw [mX_89]
  exact ⟨em_89, Or.inl ⟨rfl, ec_89⟩, by decide, by decide, by decide, by decide⟩
set_option maxRecDepth 100000 in
theorem emk_90 : EM 90 := by
  unfold EM mN mB mO mL mR mA mSt mF mQ
  rw [mX_90]
  exact ⟨em_90, Or.inl ⟨rfl, ec_90⟩, by decide, by decide, by decide, by decide⟩
set_option maxRecDepth 100000 in
theorem emk_91 : EM 91 := by
  unfold EM mN mB mO mL mR mA mSt mF mQ
  rw [mX_91]
  exact ⟨em_91, Or.inl ⟨rfl, ec_91⟩, by decide, by decide, by decide, by decide⟩
set_option maxRecDepth 100000 in
theorem emk_92 : EM 92 := by
  unfold EM mN mB mO mL mR mA mSt mF mQ
  rw [mX_92]
  exact ⟨em_92, Or.inl ⟨rfl, ec_92⟩, by decide, by decide, by decide, by decide⟩
set_option maxRecDepth 100000 in
theorem emk_93 : EM 93 := by
  unfold EM mN mB mO mL mR mA mSt mF mQ
  rw [mX_93]
  exact ⟨em_93, Or.inl ⟨rfl, ec_93⟩, by decide, by decide, by decide, by decide⟩
set_option maxRecDepth 100000 in
theorem emk_94 : EM 94 := by
  unfold EM mN mB mO mL mR mA mSt mF mQ
  rw [mX_94]
  exact ⟨em_94, Or.inl ⟨rfl, ec_94⟩, by decide, by decide, by decide, by decide⟩
set_option maxRecDepth 100000 in
theorem emk_95 : EM 95 := by
  unfold EM mN mB mO mL mR mA mSt mF mQ
  rw [mX_95]
  exact ⟨em_95, Or.inl ⟨rfl, ec_95⟩, by decide, by decide, by decide, by decide⟩
set_option maxRecDepth 100000 in
theorem emk_96 : EM 96 := by
  unfold EM mN mB mO mL mR mA mSt mF mQ
  rw [mX_96]
  exact ⟨em_96, Or.inl ⟨rfl, ec_96⟩, by decide, by decide, by decide, by decide⟩
set_option maxRecDepth 100000 in
theorem emk_97 : EM 97 := by
  unfold EM mN mB mO mL mR mA mSt mF mQ
  rw [mX_97]
  exact ⟨em_97, Or.inl ⟨rfl, ec_97⟩, by decide, by decide, by decide, by decide⟩
set_option maxRecDepth 100000 in
theorem emk_98 : EM 98 := by
  unfold EM mN mB mO mL mR mA mSt mF mQ
  rw [mX_98]
  exact ⟨em_98, Or.inl ⟨rfl, ec_98⟩, by decide, by decide, by decide, by decide⟩
set_option maxRecDepth 100000 in
theorem emk_99 : EM 99 := by
  unfold EM mN mB mO mL mR mA mSt mF mQ
  rw [mX_99]
  exact ⟨em_99, Or.inl ⟨rfl, ec_99⟩, by decide, by decide, by decide, by decide⟩
set_option maxRecDepth 100000 in
theorem emk_100 : EM 100 := by
  unfold EM mN mB mO mL mR mA mSt mF mQ
  rw [mX_100]
  exact ⟨em_100, Or.inl ⟨rfl, ec_100⟩, by decide, by decide, by decide, by decide⟩
set_option maxRecDepth 100000 in
theorem emk_101 : EM 101 := by
  unfold EM mN mB mO mL mR mA mSt mF mQ
  rw [mX_101]
  exact ⟨em_101, Or.inl ⟨rfl, ec_101⟩, by decide, by decide, by decide, by decide⟩
set_option maxRecDepth 100000 in
theorem emk_102 : EM 102 := by
  unfold EM mN mB mO mL mR mA mSt mF mQ
  rw [mX_102]
  exact ⟨em_102, Or.inl ⟨rfl, ec_102⟩, by decide, by decide, by decide, by decide⟩
set_option maxRecDepth 100000 in
theorem emk_103 : EM 103 := by
  unfold EM mN mB mO mL mR mA mSt mF mQ
  rw [mX_103]
  exact ⟨em_103, Or.inl ⟨rfl, ec_103⟩, by decide, by decide, by decide, by decide⟩
set_option maxRecDepth 100000 in
theorem emk_104 : EM 104 := by
  unfold EM mN mB mO mL mR mA mSt mF mQ
  rw [mX_104]
  exact ⟨em_104, Or.inl ⟨rfl, ec_104⟩, by decide, by decide, by decide, by decide⟩
set_option maxRecDepth 100000 in
theorem emk_105 : EM 105 := by
  unfold EM mN mB mO mL mR mA mSt mF mQ
  rw [mX_105]
  exact ⟨em_105, Or.inl ⟨rfl, ec_105⟩, by decide, by decide, by decide, by decide⟩
set_option maxRecDepth 100000 in
theorem emk_106 : EM 106 := by
  unfold EM mN mB mO mL mR mA mSt mF mQ
  rw [mX_106]
  exact ⟨em_106, Or.inl ⟨rfl, ec_106⟩, by decide, by decide, by decide, by decide⟩
set_option maxRecDepth 100000 in
theorem emk_107 : EM 107 := by
  unfold EM mN mB mO mL mR mA mSt mF mQ
  rw [mX_107]
  exact ⟨em_107, Or.inl ⟨rfl, ec_107⟩, by decide, by decide, by decide, by decide⟩
set_option maxRecDepth 100000 in
theorem emk_108 : EM 108 := by
  unfold EM mN mB mO mL mR mA mSt mF mQ
  rw [mX_108]
  exact ⟨em_108, Or.inl ⟨rfl, ec_108⟩, by decide, by decide, by decide, by decide⟩
set_option maxRecDepth 100000 in
theorem emk_109 : EM 109 := by
  unfold EM mN mB mO mL mR mA mSt mF mQ
  rw [mX_109]
  exact ⟨em_109, Or.inl ⟨rfl, ec_109⟩, by decide, by decide, by decide, by decide⟩
set_option maxRecDepth 100000 in
theorem emk_110 : EM 110 := by
  unfold EM mN mB mO mL mR mA mSt mF mQ
  rw [mX_110]
  exact ⟨em_110, Or.inl ⟨rfl, ec_110⟩, by decide, by decide, by decide, by decide⟩
set_option maxRecDepth 100000 in
theorem emk_111 : EM 111 := by
  unfold EM mN mB mO mL mR mA mSt mF mQ
  rw [mX_111]
  exact ⟨em_111, Or.inl ⟨rfl, ec_111⟩, by decide, by decide, by decide, by decide⟩
set_option maxRecDepth 100000 in
theorem emk_112 : EM 112 := by
  unfold EM mN mB mO mL mR mA mSt mF mQ
  rw [mX_112]
  exact ⟨em_112, Or.inl ⟨rfl, ec_112⟩, by decide, by decide, by decide, by decide⟩
set_option maxRecDepth 100000 in
theorem emk_113 : EM 113 := by
  unfold EM mN mB mO mL mR mA mSt mF mQ
  rw [mX_113]
  exact ⟨em_113, Or.inl ⟨rfl, ec_113⟩, by decide, by decide, by decide, by decide⟩
set_option maxRecDepth 100000 in
theorem emk_114 : EM 114 := by
  unfold EM mN mB mO mL mR mA mSt mF mQ
  rw [mX_114]
  exact ⟨em_114, Or.inl ⟨rfl, ec_114⟩, by decide, by decide, by decide, by decide⟩
set_option maxRecDepth 100000 in
theorem emk_115 : EM 115 := by
  unfold EM mN mB mO mL mR mA mSt mF mQ
  rw [mX_115]
  exact ⟨em_115, Or.inl ⟨rfl, ec_115⟩, by decide, by decide, by decide, by decide⟩
set_option maxRecDepth 100000 in
theorem emk_116 : EM 116 := by
  unfold EM mN mB mO mL mR mA mSt mF mQ
  rw [mX_116]
  exact ⟨em_116, Or.inl ⟨rfl, ec_116⟩, by decide, by decide, by decide, by decide⟩
set_option maxRecDepth 100000 in
theorem emk_117 : EM 117 := by
  unfold EM mN mB mO mL mR mA mSt mF mQ
  rw [mX_117]
  exact ⟨em_117, Or.inl ⟨rfl, ec_117⟩, by decide, by decide, by decide, by decide⟩
set_option maxRecDepth 100000 in
theorem emk_118 : EM 118 := by
  unfold EM mN mB mO mL mR mA mSt mF mQ
  rw [mX_118]
  exact ⟨em_118, Or.inl ⟨rfl, ec_118⟩, by decide, by decide, by decide, by decide⟩
set_option maxRecDepth 100000 in
theorem emk_119 : EM 119 := by
  unfold EM mN mB mO mL mR mA mSt mF mQ
  rw [mX_119]
  exact ⟨em_119, Or.inl ⟨rfl, ec_119⟩, by decide, by decide, by decide, by decide⟩
set_option maxRecDepth 100000 in
theorem emk_120 : EM 120 := by
  unfold EM mN mB mO mL mR mA mSt mF mQ
  rw [mX_120]
  exact ⟨em_120, Or.inl ⟨rfl, ec_120⟩, by decide, by decide, by decide, by decide⟩
set_option maxRecDepth 100000 in
theorem emk_121 : EM 121 := by
  unfold EM mN mB mO mL mR mA mSt mF mQ
  rw [mX_121]
  exact ⟨em_121, Or.inl ⟨rfl, ec_121⟩, by decide, by decide, by decide, by decide⟩
set_option maxRecDepth 100000 in
theorem emk_122 : EM 122 := by
  unfold EM mN mB mO mL mR mA mSt mF mQ
  rw [mX_122]
  exact ⟨em_122, Or.inl ⟨rfl, ec_122⟩, by decide, by decide, by decide, by decide⟩
set_option maxRecDepth 100000 in
theorem emk_123 : EM 123 := by
  unfold EM mN mB mO mL mR mA mSt mF mQ
  rw [mX_123]
  exact ⟨em_123, Or.inl ⟨rfl, ec_123⟩, by decide, by decide, by decide, by decide⟩
set_option maxRecDepth 100000 in
theorem emk_124 : EM 124 := by
  unfold EM mN mB mO mL mR mA mSt mF mQ
  rw [mX_124]
  exact ⟨em_124, Or.inl ⟨rfl, ec_124⟩, by decide, by decide, by decide, by decide⟩
set_option maxRecDepth 100000 in
theorem emk_125 : EM 125 := by
  unfold EM mN mB mO mL mR mA mSt mF mQ
  rw [mX_125]
  exact ⟨em_125, Or.inl ⟨rfl, ec_125⟩, by decide, by decide, by decide, by decide⟩
set_option maxRecDepth 100000 in
theorem emk_126 : EM 126 := by
  unfold EM mN mB mO mL mR mA mSt mF mQ
  rw [mX_126]
  exact ⟨em_126, Or.inl ⟨rfl, ec_126⟩, by decide, by decide, by decide, by decide⟩
set_option maxRecDepth 100000 in
theorem emk_127 : EM 127 := by
  unfold EM mN mB mO mL mR mA mSt mF mQ
  rw [mX_127]
  exact ⟨em_127, Or.inl ⟨rfl, ec_127⟩, by decide, by decide, by decide, by decide⟩
set_option maxRecDepth 100000 in
theorem emk_128 : EM 128 := by
  unfold EM mN mB mO mL mR mA mSt mF mQ
  rw [mX_128]
  exact ⟨em_128, Or.inl ⟨rfl, ec_128⟩, by decide, by decide, by decide, by decide⟩
set_option maxRecDepth 100000 in
theorem emk_129 : EM 129 := by
  unfold EM mN mB mO mL mR mA mSt mF mQ
  rw [mX_129]
  exact ⟨em_129, Or.inl ⟨rfl, ec_129⟩, by decide, by decide, by decide, by decide⟩
set_option maxRecDepth 100000 in
theorem emk_130 : EM 130 := by
  unfold EM mN mB mO mL mR mA mSt mF mQ
  rw [mX_130]
  exact ⟨em_130, Or.inl ⟨rfl, ec_130⟩, by decide, by decide, by decide, by decide⟩
set_option maxRecDepth 100000 in
theorem emk_131 : EM 131 := by
  unfold EM mN mB mO mL mR mA mSt mF mQ
  rw [mX_131]
  exact ⟨em_131, Or.inl ⟨rfl, ec_131⟩, by decide, by decide, by decide, by decide⟩
set_option maxRecDepth 100000 in
theorem emk_132 : EM 132 := by
  unfold EM mN mB mO mL mR mA mSt mF mQ
  rw [mX_132]
  exact ⟨em_132, Or.inl ⟨rfl, ec_132⟩, by decide, by decide, by decide, by decide⟩
set_option maxRecDepth 100000 in
theorem emk_133 : EM 133 := by
  unfold EM mN mB mO mL mR mA mSt mF mQ
  rw [mX_133]
  exact ⟨em_133, Or.inl ⟨rfl, ec_133⟩, by decide, by decide, by decide, by decide⟩
set_option maxRecDepth 100000 in
theorem emk_134 : EM 134 := by
  unfold EM mN mB mO mL mR mA mSt mF mQ
  rw [mX_134]
  exact ⟨em_134, Or.inl ⟨rfl, ec_134⟩, by decide, by decide, by decide, by decide⟩
set_option maxRecDepth 100000 in
theorem emk_135 : EM 135 := by
  unfold EM mN mB mO mL mR mA mSt mF mQ
  rw [mX_135]
  exact ⟨em_135, Or.inl ⟨rfl, ec_135⟩, by decide, by decide, by decide, by decide⟩
set_option maxRecDepth 100000 in
theorem emk_136 : EM 136 := by
  unfold EM mN mB mO mL mR mA mSt mF mQ
  rw [mX_136]
  exact ⟨em_136, Or.inl ⟨rfl, ec_136⟩, by decide, by decide, by decide, by decide⟩
set_option maxRecDepth 100000 in
theorem emk_137 : EM 137 := by
  unfold EM mN mB mO mL mR mA mSt mF mQ
  rw [mX_137]
  exact ⟨em_137, Or.inl ⟨rfl, ec_137⟩, by decide, by decide, by decide, by decide⟩
set_option maxRecDepth 100000 in
theorem emk_138 : EM 138 := by
  unfold EM mN mB mO mL mR mA mSt mF mQ
  rw [mX_138]
  exact ⟨em_138, Or.inl ⟨rfl, ec_138⟩, by decide, by decide, by decide, by decide⟩
set_option maxRecDepth 100000 in
theorem emk_139 : EM 139 := by
  unfold EM mN mB mO mL mR mA mSt mF mQ
  rw [mX_139]
  exact ⟨em_139, Or.inl ⟨rfl, ec_139⟩, by decide, by decide, by decide, by decide⟩
set_option maxRecDepth 100000 in
theorem emk_140 : EM 140 := by
  unfold EM mN mB mO mL mR mA mSt mF mQ
  rw [mX_140]
  exact ⟨em_140, Or.inl ⟨rfl, ec_140⟩, by decide, by decide, by decide, by decide⟩
set_option maxRecDepth 100000 in
theorem emk_141 : EM 141 := by
  unfold EM mN mB mO mL mR mA mSt mF mQ
  rw [mX_141]
  exact ⟨em_141, Or.inl ⟨rfl, ec_141⟩, by decide, by decide, by decide, by decide⟩
set_option maxRecDepth 100000 in
theorem emk_142 : EM 142 := by
  unfold EM mN mB mO mL mR mA mSt mF mQ
  rw [mX_142]
  exact ⟨em_142, Or.inl ⟨rfl, ec_142⟩, by decide, by decide, by decide, by decide⟩
set_option maxRecDepth 100000 in
theorem emk_143 : EM 143 := by
  unfold EM mN mB mO mL mR mA mSt mF mQ
  rw [mX_143]
  exact ⟨em_143, Or.inl ⟨rfl, ec_143⟩, by decide, by decide, by decide, by decide⟩
set_option maxRecDepth 100000 in
theorem emk_144 : EM 144 := by
  unfold EM mN mB mO mL mR mA mSt mF mQ
  rw [mX_144]
  exact ⟨em_144, Or.inl ⟨rfl, ec_144⟩, by decide, by decide, by decide, by decide⟩
set_option maxRecDepth 100000 in
theorem emk_145 : EM 145 := by
  unfold EM mN mB mO mL mR mA mSt mF mQ
  rw [mX_145]
  exact ⟨em_145, Or.inl ⟨rfl, ec_145⟩, by decide, by decide, by decide, by decide⟩
set_option maxRecDepth 100000 in
theorem emk_146 : EM 146 := by
  unfold EM mN mB mO mL mR mA mSt mF mQ
  rw [mX_146]
  exact ⟨em_146, Or.inl ⟨rfl, ec_146⟩, by decide, by decide, by decide, by decide⟩
set_option maxRecDepth 100000 in
theorem emk_147 : EM 147 := by
  unfold EM mN mB mO mL mR mA mSt mF mQ
  rw [mX_147]
  exact ⟨em_147, Or.inl ⟨rfl, ec_147⟩, by decide, by decide, by decide, by decide⟩
set_option maxRecDepth 100000 in
theorem emk_148 : EM 148 := by
  unfold EM mN mB mO mL mR mA mSt mF mQ
  rw [mX_148]
  exact ⟨em_148, Or.inl ⟨rfl, ec_148⟩, by decide, by decide, by decide, by decide⟩
set_option maxRecDepth 100000 in
theorem emk_149 : EM 149 := by
  unfold EM mN mB mO mL mR mA mSt mF mQ
  rw [mX_149]
  exact ⟨em_149, Or.inl ⟨rfl, ec_149⟩, by decide, by decide, by decide, by decide⟩
set_option maxRecDepth 100000 in
theorem emk_150 : EM 150 := by
  unfold EM mN mB mO mL mR mA mSt mF mQ
  rw [mX_150]
  exact ⟨em_150, Or.inl ⟨rfl, ec_150⟩, by decide, by decide, by decide, by decide⟩
set_option maxRecDepth 100000 in
theorem emk_151 : EM 151 := by
  unfold EM mN mB mO mL mR mA mSt mF mQ
  rw [mX_151]
  exact ⟨em_151, Or.inl ⟨rfl, ec_151⟩, by decide, by decide, by decide, by decide⟩
set_option maxRecDepth 100000 in
theorem emk_152 : EM 152 := by
  unfold EM mN mB mO mL mR mA mSt mF mQ
  rw [mX_152]
  exact ⟨em_152, Or.inl ⟨rfl, ec_152⟩, by decide, by decide, by decide, by decide⟩
set_option maxRecDepth 100000 in
theorem emk_153 : EM 153 := by
  unfold EM mN mB mO mL mR mA mSt mF mQ
  rw [mX_153]
  exact ⟨em_153, Or.inl ⟨rfl, ec_153⟩, by decide, by decide, by decide, by decide⟩
set_option maxRecDepth 100000 in
theorem emk_154 : EM 154 := by
  unfold EM mN mB mO mL mR mA mSt mF mQ
  rw [mX_154]
  exact ⟨em_154, Or.inl ⟨rfl, ec_154⟩, by decide, by decide, by decide, by decide⟩
set_option maxRecDepth 100000 in
theorem emk_155 : EM 155 := by
  unfold EM mN mB mO mL mR mA mSt mF mQ
  rw [mX_155]
  exact ⟨em_155, Or.inl ⟨rfl, ec_155⟩, by decide, by decide, by decide, by decide⟩
set_option maxRecDepth 100000 in
theorem emk_156 : EM 156 := by
  unfold EM mN mB mO mL mR mA mSt mF mQ
  rw [mX_156]
  exact ⟨em_156, Or.inl ⟨rfl, ec_156⟩, by decide, by decide, by decide, by decide⟩
set_option maxRecDepth 100000 in
theorem emk_157 : EM 157 := by
  unfold EM mN mB mO mL mR mA mSt mF mQ
  rw [mX_157]
  exact ⟨em_157, Or.inl ⟨rfl, ec_157⟩, by decide, by decide, by decide, by decide⟩
set_option maxRecDepth 100000 in
theorem emk_158 : EM 158 := by
  unfold EM mN mB mO mL mR mA mSt mF mQ
  rw [mX_158]
  exact ⟨em_158, Or.inl ⟨rfl, ec_158⟩, by decide, by decide, by decide, by decide⟩
set_option maxRecDepth 100000 in
theorem emk_159 : EM 159 := by
  unfold EM mN mB mO mL mR mA mSt mF mQ
  rw [mX_159]
  exact ⟨em_159, Or.inl ⟨rfl, ec_159⟩, by decide, by decide, by decide, by decide⟩
set_option maxRecDepth 100000 in
theorem emk_160 : EM 160 := by
  unfold EM mN mB mO mL mR mA mSt mF mQ
  rw [mX_160]
  exact ⟨em_160, Or.inl ⟨rfl, ec_160⟩, by decide, by decide, by decide, by decide⟩
set_option maxRecDepth 100000 in
theorem emk_161 : EM 161 := by
  unfold EM mN mB mO mL mR mA mSt mF mQ
  rw [mX_161]
  exact ⟨em_161, Or.inl ⟨rfl, ec_161⟩, by decide, by decide, by decide, by decide⟩
set_option maxRecDepth 100000 in
theorem emk_162 : EM 162 := by
  unfold EM mN mB mO mL mR mA mSt mF mQ
  rw [mX_162]
  exact ⟨em_162, Or.inl ⟨rfl, ec_162⟩, by decide, by decide, by decide, by decide⟩
set_option maxRecDepth 100000 in
theorem emk_163 : EM 163 := by
  unfold EM mN mB mO mL mR mA mSt mF mQ
  rw [mX_163]
  exact ⟨em_163, Or.inl ⟨rfl, ec_163⟩, by decide, by decide, by decide, by decide⟩
set_option maxRecDepth 100000 in
theorem emk_164 : EM 164 := by
  unfold EM mN mB mO mL mR mA mSt mF mQ
  rw [mX_164]
  exact ⟨em_164, Or.inl ⟨rfl, ec_164⟩, by decide, by decide, by decide, by decide⟩
set_option maxRecDepth 100000 in
theorem emk_165 : EM 165 := by
  unfold EM mN mB mO mL mR mA mSt mF mQ
  rw [mX_165]
  exact ⟨em_165, Or.inl ⟨rfl, ec_165⟩, by decide, by decide, by decide, by decide⟩
set_option maxRecDepth 100000 in
theorem emk_166 : EM 166 := by
  unfold EM mN mB mO mL mR mA mSt mF mQ
  rw [mX_166]
  exact ⟨em_166, Or.inl ⟨rfl, ec_166⟩, by decide, by decide, by decide, by decide⟩
set_option maxRecDepth 100000 in
theorem emk_167 : EM 167 := by
  unfold EM mN mB mO mL mR mA mSt mF mQ
  rw [mX_167]
  exact ⟨em_167, Or.inl ⟨rfl, ec_167⟩, by decide, by decide, by decide, by decide⟩
set_option maxRecDepth 100000 in
theorem emk_168 : EM 168 := by
  unfold EM mN mB mO mL mR mA mSt mF mQ
  rw [mX_168]
  exact ⟨em_168, Or.inl ⟨rfl, ec_168⟩, by decide, by decide, by decide, by decide⟩
set_option maxRecDepth 100000 in
theorem emk_169 : EM 169 := by
  unfold EM mN mB mO mL mR mA mSt mF mQ
  rw [mX_169]
  exact ⟨em_169, Or.inl ⟨rfl, ec_169⟩, by decide, by decide, by decide, by decide⟩
set_option maxRecDepth 100000 in
theorem emk_170 : EM 170 := by
  unfold EM mN mB mO mL mR mA mSt mF mQ
  rw [mX_170]
  exact ⟨em_170, Or.inl ⟨rfl, ec_170⟩, by decide, by decide, by decide, by decide⟩
set_option maxRecDepth 100000 in
theorem emk_171 : EM 171 := by
  unfold EM mN mB mO mL mR mA mSt mF mQ
  rw [mX_171]
  exact ⟨em_171, Or.inl ⟨rfl, ec_171⟩, by decide, by decide, by decide, by decide⟩
set_option maxRecDepth 100000 in
theorem emk_172 : EM 172 := by
  unfold EM mN mB mO mL mR mA mSt mF mQ
  rw [mX_172]
  exact ⟨em_172, Or.inl ⟨rfl, ec_172⟩, by decide, by decide, by decide, by decide⟩
set_option maxRecDepth 100000 in
theorem emk_173 : EM 173 := by
  unfold EM mN mB mO mL mR mA mSt mF mQ
  rw [mX_173]
  exact ⟨em_173, Or.inl ⟨rfl, ec_173⟩, by decide, by decide, by decide, by decide⟩
set_option maxRecDepth 100000 in
theorem emk_174 : EM 174 := by
  unfold EM mN mB mO mL mR mA mSt mF mQ
  rw [mX_174]
  exact ⟨em_174, Or.inl ⟨rfl, ec_174⟩, by decide, by decide, by decide, by decide⟩
set_option maxRecDepth 100000 in
theorem emk_175 : EM 175 := by
  unfold EM mN mB mO mL mR mA mSt mF mQ
  rw [mX_175]
  exact ⟨em_175, Or.inl ⟨rfl, ec_175⟩, by decide, by decide, by decide, by decide⟩
set_option maxRecDepth 100000 in
theorem emk_176 : EM 176 := by
  unfold EM mN mB mO mL mR mA mSt mF mQ
  rw [mX_176]
  exact ⟨em_176, Or.inl ⟨rfl, ec_176⟩, by decide, by decide, by decide, by decide⟩
set_option maxRecDepth 100000 in
theorem emk_177 : EM 177 := by
  unfold EM mN mB mO mL mR mA mSt mF mQ
  rw [mX_177]
  exact ⟨em_177, Or.inl ⟨rfl, ec_177⟩, by decide, by decide, by decide, by decide⟩
set_option maxRecDepth 100000 in
theorem emk_178 : EM 178 := by
  unfold EM mN mB mO mL mR mA mSt mF mQ
  rw [mX_178]
  exact ⟨em_178, Or.inl ⟨rfl, ec_178⟩, by decide, by decide, by decide, by decide⟩
set_option maxRecDepth 100000 in
theorem emk_179 : EM 179 := by
  unfold EM mN mB mO mL mR mA mSt mF mQ
  rw [mX_179]
  exact ⟨em_179, Or.inl ⟨rfl, ec_179⟩, by decide, by decide, by decide, by decide⟩
set_option maxRecDepth 100000 in
theorem emk_180 : EM 180 := by
  unfold EM mN mB mO mL mR mA mSt mF mQ
  rw [mX_180]
  exact ⟨em_180, Or.inl ⟨rfl, ec_180⟩, by decide, by decide, by decide, by decide⟩
set_option maxRecDepth 100000 in
theorem emk_181 : EM 181 := by
  unfold EM mN mB mO mL mR mA mSt mF mQ
  rw [mX_181]
  exact ⟨em_181, Or.inl ⟨rfl, ec_181⟩, by decide, by decide, by decide, by decide⟩
set_option maxRecDepth 100000 in
theorem emk_182 : EM 182 := by
  unfold EM mN mB mO mL mR mA mSt mF mQ
  rw [mX_182]
  exact ⟨em_182, Or.inl ⟨rfl, ec_182⟩, by decide, by decide, by decide, by decide⟩
set_option maxRecDepth 100000 in
theorem emk_183 : EM 183 := by
  unfold EM mN mB mO mL mR mA mSt mF mQ
  rw [mX_183]
  exact ⟨em_183, Or.inl ⟨rfl, ec_183⟩, by decide, by decide, by decide, by decide⟩
set_option maxRecDepth 100000 in
theorem emk_184 : EM 184 := by
  unfold EM mN mB mO mL mR mA mSt mF mQ
  rw [mX_184]
  exact ⟨em_184, Or.inl ⟨rfl, ec_184⟩, by decide, by decide, by decide, by decide⟩
set_option maxRecDepth 100000 in
theorem emk_185 : EM 185 := by
  unfold EM mN mB mO mL mR mA mSt mF mQ
  rw [mX_185]
  exact ⟨em_185, Or.inl ⟨rfl, ec_185⟩, by decide, by decide, by decide, by decide⟩
set_option maxRecDepth 100000 in
theorem emk_186 : EM 186 := by
  unfold EM mN mB mO mL mR mA mSt mF mQ
  rw [mX_186]
  exact ⟨em_186, Or.inl ⟨rfl, ec_186⟩, by decide, by decide, by decide, by decide⟩
set_option maxRecDepth 100000 in
theorem emk_187 : EM 187 := by
  unfold EM mN mB mO mL mR mA mSt mF mQ
  rw [mX_187]
  exact ⟨em_187, Or.inl ⟨rfl, ec_187⟩, by decide, by decide, by decide, by decide⟩
set_option maxRecDepth 100000 in
theorem emk_188 : EM 188 := by
  unfold EM mN mB mO mL mR mA mSt mF mQ
  rw [mX_188]
  exact ⟨em_188, Or.inl ⟨rfl, ec_188⟩, by decide, by decide, by decide, by decide⟩
set_option maxRecDepth 100000 in
theorem emk_189 : EM 189 := by
  unfold EM mN mB mO mL mR mA mSt mF mQ
  rw [mX_189]
  exact ⟨em_189, Or.inl ⟨rfl, ec_189⟩, by decide, by decide, by decide, by decide⟩
set_option maxRecDepth 100000 in
theorem emk_190 : EM 190 := by
  unfold EM mN mB mO mL mR mA mSt mF mQ
  rw [mX_190]
  exact ⟨em_190, Or.inl ⟨rfl, ec_190⟩, by decide, by decide, by decide, by decide⟩
set_option maxRecDepth 100000 in
theorem emk_191 : EM 191 := by
  unfold EM mN mB mO mL mR mA mSt mF mQ
  rw [mX_191]
  exact ⟨em_191, Or.inl ⟨rfl, ec_191⟩, by decide, by decide, by decide, by decide⟩
set_option maxRecDepth 100000 in
theorem emk_192 : EM 192 := by
  unfold EM mN mB mO mL mR mA mSt mF mQ
  rw [mX_192]
  exact ⟨em_192, Or.inl ⟨rfl, ec_192⟩, by decide, by decide, by decide, by decide⟩
set_option maxRecDepth 100000 in
theorem emk_193 : EM 193 := by
  unfold EM mN mB mO mL mR mA mSt mF mQ
  rw [mX_193]
  exact ⟨em_193, Or.inl ⟨rfl, ec_193⟩, by decide, by decide, by decide, by decide⟩
set_option maxRecDepth 100000 in
theorem emk_194 : EM 194 := by
  unfold EM mN mB mO mL mR mA mSt mF mQ
  rw [mX_194]
  exact ⟨em_194, Or.inl ⟨rfl, ec_194⟩, by decide, by decide, by decide, by decide⟩
set_option maxRecDepth 100000 in
theorem emk_195 : EM 195 := by
  unfold EM mN mB mO mL mR mA mSt mF mQ
  rw [mX_195]
  exact ⟨em_195, Or.inl ⟨rfl, ec_195⟩, by decide, by decide, by decide, by decide⟩
set_option maxRecDepth 100000 in
theorem emk_196 : EM 196 := by
  unfold EM mN mB mO mL mR mA mSt mF mQ
  rw [mX_196]
  exact ⟨em_196, Or.inl ⟨rfl, ec_196⟩, by decide, by decide, by decide, by decide⟩
set_option maxRecDepth 100000 in
theorem emk_197 : EM 197 := by
  unfold EM mN mB mO mL mR mA mSt mF mQ
  rw [mX_197]
  exact ⟨em_197, Or.inl ⟨rfl, ec_197⟩, by decide, by decide, by decide, by decide⟩
set_option maxRecDepth 100000 in
theorem emk_198 : EM 198 := by
  unfold EM mN mB mO mL mR mA mSt mF mQ
  rw [mX_198]
  exact ⟨em_198, Or.inl ⟨rfl, ec_198⟩, by decide, by decide, by decide, by decide⟩
set_option maxRecDepth 100000 in
theorem emk_199 : EM 199 := by
  unfold EM mN mB mO mL mR mA mSt mF mQ
  rw [mX_199]
  exact ⟨em_199, Or.inl ⟨rfl, ec_199⟩, by decide, by decide, by decide, by decide⟩
set_option maxRecDepth 100000 in
theorem emk_200 : EM 200 := by
  unfold EM mN mB mO mL mR mA mSt mF mQ
  rw [mX_200]
  exact ⟨em_200, Or.inl ⟨rfl, ec_200⟩, by decide, by decide, by decide, by decide⟩
set_option maxRecDepth 100000 in
theorem emk_201 : EM 201 := by
  unfold EM mN mB mO mL mR mA mSt mF mQ
  rw [mX_201]
  exact ⟨em_201, Or.inl ⟨rfl, ec_201⟩, by decide, by decide, by decide, by decide⟩
set_option maxRecDepth 100000 in
theorem emk_202 : EM 202 := by
  unfold EM mN mB mO mL mR mA mSt mF mQ
  rw [mX_202]
  exact ⟨em_202, Or.inl ⟨rfl, ec_202⟩, by decide, by decide, by decide, by decide⟩
set_option maxRecDepth 100000 in
theorem emk_203 : EM 203 := by
  unfold EM mN mB mO mL mR mA mSt mF mQ
  rw [mX_203]
  exact ⟨em_203, Or.inl ⟨rfl, ec_203⟩, by decide, by decide, by decide, by decide⟩
set_option maxRecDepth 100000 in
theorem emk_204 : EM 204 := by
  unfold EM mN mB mO mL mR mA mSt mF mQ
  rw [mX_204]
  exact ⟨em_204, Or.inl ⟨rfl, ec_204⟩, by decide, by decide, by decide, by decide⟩
set_option maxRecDepth 100000 in
theorem emk_205 : EM 205 := by
  unfold EM mN mB mO mL mR mA mSt mF mQ
  rw [mX_205]
  exact ⟨em_205, Or.inl ⟨rfl, ec_205⟩, by decide, by decide, by decide, by decide⟩
set_option maxRecDepth 100000 in
theorem emk_206 : EM 206 := by
  unfold EM mN mB mO mL mR mA mSt mF mQ
  rw [mX_206]
  exact ⟨em_206, Or.inl ⟨rfl, ec_206⟩, by decide, by decide, by decide, by decide⟩
set_option maxRecDepth 100000 in
theorem emk_207 : EM 207 := by
  unfold EM mN mB mO mL mR mA mSt mF mQ
  rw [mX_207]
  exact ⟨em_207, Or.inl ⟨rfl, ec_207⟩, by decide, by decide, by decide, by decide⟩
set_option maxRecDepth 100000 in
theorem emk_208 : EM 208 := by
  unfold EM mN mB mO mL mR mA mSt mF mQ
  rw [mX_208]
  exact ⟨em_208, Or.inl ⟨rfl, ec_208⟩, by decide, by decide, by decide, by decide⟩
set_option maxRecDepth 100000 in
theorem emk_209 : EM 209 := by
  unfold EM mN mB mO mL mR mA mSt mF mQ
  rw [mX_209]
  exact ⟨em_209, Or.inl ⟨rfl, ec_209⟩, by decide, by decide, by decide, by decide⟩
set_option maxRecDepth 100000 in
theorem emk_210 : EM 210 := by
  unfold EM mN mB mO mL mR mA mSt mF mQ
  rw [mX_210]
  exact ⟨em_210, Or.inl ⟨rfl, ec_210⟩, by decide, by decide, by decide, by decide⟩
set_option maxRecDepth 100000 in
theorem emk_211 : EM 211 := by
  unfold EM mN mB mO mL mR mA mSt mF mQ
  rw [mX_211]
  exact ⟨em_211, Or.inl ⟨rfl, ec_211⟩, by decide, by decide, by decide, by decide⟩
set_option maxRecDepth 100000 in
theorem emk_212 : EM 212 := by
  unfold EM mN mB mO mL mR mA mSt mF mQ
  rw [mX_212]
  exact ⟨em_212, Or.inr ⟨rfl, ec_212⟩, by decide, by decide, by decide, by decide⟩
set_option maxRecDepth 100000 in
theorem emk_213 : EM 213 := by
  unfold EM mN mB mO mL mR mA mSt mF mQ
  rw [mX_213]
  exact ⟨em_213, Or.inr ⟨rfl, ec_213⟩, by decide, by decide, by decide, by decide⟩
set_option maxRecDepth 100000 in
theorem emk_214 : EM 214 := by
  unfold EM mN mB mO mL mR mA mSt mF mQ
  rw [mX_214]
  exact ⟨em_214, Or.inr ⟨rfl, ec_214⟩, by decide, by decide, by decide, by decide⟩
set_option maxRecDepth 100000 in
theorem emk_215 : EM 215 := by
  unfold EM mN mB mO mL mR mA mSt mF mQ
  rw [mX_215]
  exact ⟨em_215, Or.inr ⟨rfl, ec_215⟩, by decide, by decide, by decide, by decide⟩
set_option maxRecDepth 100000 in
theorem emk_216 : EM 216 := by
  unfold EM mN mB mO mL mR mA mSt mF mQ
  rw [mX_216]
  exact ⟨em_216, Or.inr ⟨rfl, ec_216⟩, by decide, by decide, by decide, by decide⟩
set_option maxRecDepth 100000 in
theorem emk_217 : EM 217 := by
  unfold EM mN mB mO mL mR mA mSt mF mQ
  rw [mX_217]
  exact ⟨em_217, Or.inr ⟨rfl, ec_217⟩, by decide, by decide, by decide, by decide⟩
set_option maxRecDepth 100000 in
theorem emk_218 : EM 218 := by
  unfold EM mN mB mO mL mR mA mSt mF mQ
  rw [mX_218]
  exact ⟨em_218, Or.inr ⟨rfl, ec_218⟩, by decide, by decide, by decide, by decide⟩
set_option maxRecDepth 100000 in
theorem emk_219 : EM 219 := by
  unfold EM mN mB mO mL mR mA mSt mF mQ
  rw [mX_219]
  exact ⟨em_219, Or.inr ⟨rfl, ec_219⟩, by decide, by decide, by decide, by decide⟩
set_option maxRecDepth 100000 in
theorem emk_220 : EM 220 := by
  unfold EM mN mB mO mL mR mA mSt mF mQ
  rw [mX_220]
  exact ⟨em_220, Or.inr ⟨rfl, ec_220⟩, by decide, by decide, by decide, by decide⟩
set_option maxRecDepth 100000 in
theorem emk_221 : EM 221 := by
  unfold EM mN mB mO mL mR mA mSt mF mQ
  rw [mX_221]
  exact ⟨em_221, Or.inr ⟨rfl, ec_221⟩, by decide, by decide, by decide, by decide⟩
set_option maxRecDepth 100000 in
theorem emk_222 : EM 222 := by
  unfold EM mN mB mO mL mR mA mSt mF mQ
  rw [mX_222]
  exact ⟨em_222, Or.inr ⟨rfl, ec_222⟩, by decide, by decide, by decide, by decide⟩
set_option maxRecDepth 100000 in
theorem emk_223 : EM 223 := by
  unfold EM mN mB mO mL mR mA mSt mF mQ
  rw [mX_223]
  exact ⟨em_223, Or.inr ⟨rfl, ec_223⟩, by decide, by decide, by decide, by decide⟩
set_option maxRecDepth 100000 in
theorem emk_224 : EM 224 := by
  unfold EM mN mB mO mL mR mA mSt mF mQ
  rw [mX_224]
  exact ⟨em_224, Or.inr ⟨rfl, ec_224⟩, by decide, by decide, by decide, by decide⟩
set_option maxRecDepth 100000 in
theorem emk_225 : EM 225 := by
  unfold EM mN mB mO mL mR mA mSt mF mQ
  rw [mX_225]
  exact ⟨em_225, Or.inr ⟨rfl, ec_225⟩, by decide, by decide, by decide, by decide⟩
set_option maxRecDepth 100000 in
theorem emk_226 : EM 226 := by
  unfold EM mN mB mO mL mR mA mSt mF mQ
  rw [mX_226]
  exact ⟨em_226, Or.inr ⟨rfl, ec_226⟩, by decide, by decide, by decide, by decide⟩
set_option maxRecDepth 100000 in
theorem emk_227 : EM 227 := by
  unfold EM mN mB mO mL mR mA mSt mF mQ
  rw [mX_227]
  exact ⟨em_227, Or.inl ⟨rfl, ec_227⟩, by decide, by decide, by decide, by decide⟩
set_option maxRecDepth 100000 in
theorem emk_228 : EM 228 := by
  unfold EM mN mB mO mL mR mA mSt mF mQ
  rw [mX_228]
  exact ⟨em_228, Or.inl ⟨rfl, ec_228⟩, by decide, by decide, by decide, by decide⟩
set_option maxRecDepth 100000 in
theorem emk_229 : EM 229 := by
  unfold EM mN mB mO mL mR mA mSt mF mQ
  rw [mX_229]
  exact ⟨em_229, Or.inl ⟨rfl, ec_229⟩, by decide, by decide, by decide, by decide⟩
set_option maxRecDepth 100000 in
theorem emk_230 : EM 230 := by
  unfold EM mN mB mO mL mR mA mSt mF mQ
  rw [mX_230]
  exact ⟨em_230, Or.inl ⟨rfl, ec_230⟩, by decide, by decide, by decide, by decide⟩
set_option maxRecDepth 100000 in
theorem emk_231 : EM 231 := by
  unfold EM mN mB mO mL mR mA mSt mF mQ
  rw [mX_231]
  exact ⟨em_231, Or.inl ⟨rfl, ec_231⟩, by decide, by decide, by decide, by decide⟩
set_option maxRecDepth 100000 in
theorem emk_232 : EM 232 := by
  unfold EM mN mB mO mL mR mA mSt mF mQ
  rw [mX_232]
  exact ⟨em_232, Or.inl ⟨rfl, ec_232⟩, by decide, by decide, by decide, by decide⟩
set_option maxRecDepth 100000 in
theorem emk_233 : EM 233 := by
  unfold EM mN mB mO mL mR mA mSt mF mQ
  rw [mX_233]
  exact ⟨em_233, Or.inl ⟨rfl, ec_233⟩, by decide, by decide, by decide, by decide⟩
set_option maxRecDepth 100000 in
theorem emL_0 : ∀ z ∈ ([0, 1, 2, 3, 4, 5, 6, 7, 8, 9, 10, 11, 12, 13, 14, 15, 16, 17, 18, 19, 20, 21, 22, 23, 24, 25, 26, 27, 28, 29, 30, 31, 32, 33, 34, 35, 36, 37, 38, 39, 40, 41, 42, 43, 44, 45, 46, 47, 48, 49, 50, 51, 52, 53, 54, 55, 56, 57, 58, 59, 60, 61, 62, 63, 64, 65, 66, 67, 68, 69] : List Nat), EM z := List.forall_mem_cons.mpr ⟨emk_0, List.forall_mem_cons.mpr ⟨emk_1, List.forall_mem_cons.mpr ⟨emk_2, List.forall_mem_cons.mpr ⟨emk_3, List.forall_mem_cons.mpr ⟨emk_4, List.forall_mem_cons.mpr ⟨emk_5, List.forall_mem_cons.mpr ⟨emk_6, List.forall_mem_cons.mpr ⟨emk_7, List.forall_mem_cons.mpr ⟨emk_8, List.forall_mem_cons.mpr ⟨emk_9, List.forall_mem_cons.mpr ⟨emk_10, List.forall_mem_cons.mpr ⟨emk_11, List.forall_mem_cons.mpr ⟨emk_12, List.forall_mem_cons.mpr ⟨emk_13, List.forall_mem_cons.mpr ⟨emk_14, List.forall_mem_cons.mpr ⟨emk_15, List.forall_mem_cons.mpr ⟨emk_16, List.forall_mem_cons.mpr ⟨emk_17, List.forall_mem_cons.mpr ⟨emk_18, List.forall_mem_cons.mpr ⟨emk_19, List.forall_mem_cons.mpr ⟨emk_20, List.forall_mem_cons.mpr ⟨emk_21, List.forall_mem_cons.mpr ⟨emk_22, List.forall_mem_cons.mpr ⟨emk_23, List.forall_mem_cons.mpr ⟨emk_24, List.forall_mem_cons.mpr ⟨emk_25, List.forall_mem_cons.mpr ⟨emk_26, List.forall_mem_cons.mpr ⟨emk_27, List.forall_mem_cons.mpr ⟨emk_28, List.forall_mem_cons.mpr ⟨emk_29, List.forall_mem_cons.mpr ⟨emk_30, List.forall_mem_cons.mpr ⟨emk_31, List.forall_mem_cons.mpr ⟨emk_32, List.forall_mem_cons.mpr ⟨emk_33, List.forall_mem_cons.mpr ⟨emk_34, List.forall_mem_cons.mpr ⟨emk_35, List.forall_mem_cons.mpr ⟨emk_36, List.forall_mem_cons.mpr ⟨emk_37, List.forall_mem_cons.mpr ⟨emk_38, List.forall_mem_cons.mpr ⟨emk_39, List.forall_mem_cons.mpr ⟨emk_40, List.forall_mem_cons.mpr ⟨emk_41, List.forall_mem_cons.mpr ⟨emk_42, List.forall_mem_cons.mpr ⟨emk_43, List.forall_mem_cons.mpr ⟨emk_44, List.forall_mem_cons.mpr ⟨emk_45, List.forall_mem_cons.mpr ⟨emk_46, List.forall_mem_cons.mpr ⟨emk_47, List.forall_mem_cons.mpr ⟨emk_48, List.forall_mem_cons.mpr ⟨emk_49, List.forall_mem_cons.mpr ⟨emk_50, List.forall_mem_cons.mpr ⟨emk_51, List.forall_mem_cons.mpr ⟨emk_52, List.forall_mem_cons.mpr ⟨emk_53, List.forall_mem_cons.mpr ⟨emk_54, List.forall_mem_cons.mpr ⟨emk_55, List.forall_mem_cons.mpr ⟨emk_56, List.forall_mem_cons.mpr ⟨emk_57, List.forall_mem_cons.mpr ⟨emk_58, List.forall_mem_cons.mpr ⟨emk_59, List.forall_mem_cons.mpr ⟨emk_60, List.forall_mem_cons.mpr ⟨emk_61, List.forall_mem_cons.mpr ⟨emk_62, List.forall_mem_cons.mpr ⟨emk_63, List.forall_mem_cons.mpr ⟨emk_64, List.forall_mem_cons.mpr ⟨emk_65, List.forall_mem_cons.mpr ⟨emk_66, List.forall_mem_cons.mpr ⟨emk_67, List.forall_mem_cons.mpr ⟨emk_68, List.forall_mem_cons.mpr ⟨emk_69, fun _ h => absurd h List.not_mem_nil⟩⟩⟩⟩⟩⟩⟩⟩⟩⟩⟩⟩⟩⟩⟩⟩⟩⟩⟩⟩⟩⟩⟩⟩⟩⟩⟩⟩⟩⟩⟩⟩⟩⟩⟩⟩⟩⟩⟩⟩⟩⟩⟩⟩⟩⟩⟩⟩⟩⟩⟩⟩⟩⟩⟩⟩⟩⟩⟩⟩⟩⟩⟩⟩⟩⟩⟩⟩⟩⟩
set_option maxRecDepth 100000 in
theorem emL_1 : ∀ z ∈ ([70, 71, 72, 73, 74, 75, 76, 77, 78, 79, 80, 81, 82, 83, 84, 85, 86, 87, 88, 89, 90, 91, 92, 93, 94, 95, 96, 97, 98, 99, 100, 101, 102, 103, 104, 105, 106, 107, 108, 109, 110, 111, 112, 113, 114, 115, 116, 117, 118, 119, 120, 121, 122, 123, 124, 125, 126, 127, 128, 129, 130, 131, 132, 133, 134, 135, 136, 137, 138, 139] : List Nat), EM z := List.forall_mem_cons.mpr ⟨emk_70, List.forall_mem_cons.mpr ⟨emk_71, List.forall_mem_cons.mpr ⟨emk_72, List.forall_mem_cons.mpr ⟨emk_73, List.forall_mem_cons.mpr ⟨emk_74, List.forall_mem_cons.mpr ⟨emk_75, List.forall_mem_cons.mpr ⟨emk_76, List.forall_mem_cons.mpr ⟨emk_77, List.forall_mem_cons.mpr ⟨emk_78, List.forall_mem_cons.mpr ⟨emk_79, List.forall_mem_cons.mpr ⟨emk_80, List.forall_mem_cons.mpr ⟨emk_81, List.forall_mem_cons.mpr ⟨emk_82, List.forall_mem_cons.mpr ⟨emk_83, List.forall_mem_cons.mpr ⟨emk_84, List.forall_mem_cons.mpr ⟨emk_85, List.forall_mem_cons.mpr ⟨emk_86, List.forall_mem_cons.mpr ⟨emk_87, List.forall_mem_cons.mpr ⟨emk_88, List.forall_mem_cons.mpr ⟨emk_89, List.forall_mem_cons.mpr ⟨emk_90, List.forall_mem_cons.mpr ⟨emk_91, List.forall_mem_cons.mpr ⟨emk_92, List.forall_mem_cons.mpr ⟨emk_93, List.forall_mem_cons.mpr ⟨emk_94, List.forall_mem_cons.mpr ⟨emk_95, List.forall_mem_cons.mpr ⟨emk_96, List.forall_mem_cons.mpr ⟨emk_97, List.forall_mem_cons.mpr ⟨emk_98, List.forall_mem_cons.mpr ⟨emk_99, List.forall_mem_cons.mpr ⟨emk_100, List.forall_mem_cons.mpr ⟨emk_101, List.forall_mem_cons.mpr ⟨emk_102, List.forall_mem_cons.mpr ⟨emk_103, List.forall_mem_cons.mpr ⟨emk_104, List.forall_mem_cons.mpr ⟨emk_105, List.forall_mem_cons.mpr ⟨emk_106, List.forall_mem_cons.mpr ⟨emk_107, List.forall_mem_cons.mpr ⟨emk_108, List.forall_mem_cons.mpr ⟨emk_109, List.forall_mem_cons.mpr ⟨emk_110, List.forall_mem_cons.mpr ⟨emk_111, List.forall_mem_cons.mpr ⟨emk_112, List.forall_mem_cons.mpr ⟨emk_113, List.forall_mem_cons.mpr ⟨emk_114, List.forall_mem_cons.mpr ⟨emk_115, List.forall_mem_cons.mpr ⟨emk_116, List.forall_mem_cons.mpr ⟨emk_117, List.forall_mem_cons.mpr ⟨emk_118, List.forall_mem_cons.mpr ⟨emk_119, List.forall_mem_cons.mpr ⟨emk_120, List.forall_mem_cons.mpr ⟨emk_121, List.forall_mem_cons.mpr ⟨emk_122, List.forall_mem_cons.mpr ⟨emk_123, List.forall_mem_cons.mpr ⟨emk_124, List.forall_mem_cons.mpr ⟨emk_125, List.forall_mem_cons.mpr ⟨emk_126, List.forall_mem_cons.mpr ⟨emk_127, List.forall_mem_cons.mpr ⟨emk_128, List.forall_mem_cons.mpr ⟨emk_129, List.forall_mem_cons.mpr ⟨emk_130, List.forall_mem_cons.mpr ⟨emk_131, List.forall_mem_cons.mpr ⟨emk_132, List.forall_mem_cons.mpr ⟨emk_133, List.forall_mem_cons.mpr ⟨emk_134, List.forall_mem_cons.mpr ⟨emk_135, List.forall_mem_cons.mpr ⟨emk_136, List.forall_mem_cons.mpr ⟨emk_137, List.forall_mem_cons.mpr ⟨emk_138, List.forall_mem_cons.mpr ⟨emk_139, fun _ h => absurd h List.not_mem_nil⟩⟩⟩⟩⟩⟩⟩⟩⟩⟩⟩⟩⟩⟩⟩⟩⟩⟩⟩⟩⟩⟩⟩⟩⟩⟩⟩⟩⟩⟩⟩⟩⟩⟩⟩⟩⟩⟩⟩⟩⟩⟩⟩⟩⟩⟩⟩⟩⟩⟩⟩⟩⟩⟩⟩⟩⟩⟩⟩⟩⟩⟩⟩⟩⟩⟩⟩⟩⟩⟩
set_option maxRecDepth 100000 in
theorem emL_2 : ∀ z ∈ ([140, 141, 142, 143, 144, 145, 146, 147, 148, 149, 150, 151, 152, 153, 154, 155, 156, 157, 158, 159, 160, 161, 162, 163, 164, 165, 166, 167, 168, 169, 170, 171, 172, 173, 174, 175, 176, 177, 178, 179, 180, 181, 182, 183, 184, 185, 186, 187, 188, 189, 190, 191, 192, 193, 194, 195, 196, 197, 198, 199, 200, 201, 202, 203, 204, 205, 206, 207, 208, 209] : List Nat), EM z := List.forall_mem_cons.mpr ⟨emk_140, List.forall_mem_cons.mpr ⟨emk_141, List.forall_mem_cons.mpr ⟨emk_142, List.forall_mem_cons.mpr ⟨emk_143, List.forall_mem_cons.mpr ⟨emk_144, List.forall_mem_cons.mpr ⟨emk_145, List.forall_mem_cons.mpr ⟨emk_146, List.forall_mem_cons.mpr ⟨emk_147, List.forall_mem_cons.mpr ⟨emk_148, List.forall_mem_cons.mpr ⟨emk_149, List.forall_mem_cons.mpr ⟨emk_150, List.forall_mem_cons.mpr ⟨emk_151, List.forall_mem_cons.mpr ⟨emk_152, List.forall_mem_cons.mpr ⟨emk_153, List.forall_mem_cons.mpr ⟨emk_154, List.forall_mem_cons.mpr ⟨emk_155, List.forall_mem_cons.mpr ⟨emk_156, List.forall_mem_cons.mpr ⟨emk_157, List.forall_mem_cons.mpr ⟨emk_158, List.forall_mem_cons.mpr ⟨emk_159, List.forall_mem_cons.mpr ⟨emk_160, List.forall_mem_cons.mpr ⟨emk_161, List.forall_mem_cons.mpr ⟨emk_162, List.forall_mem_cons.mpr ⟨emk_163, List.forall_mem_cons.mpr ⟨emk_164, List.forall_mem_cons.mpr ⟨emk_165, List.forall_mem_cons.mpr ⟨emk_166, List.forall_mem_cons.mpr ⟨emk_167, List.forall_mem_cons.mpr ⟨emk_168, List.forall_mem_cons.mpr ⟨emk_169, List.forall_mem_cons.mpr ⟨emk_170, List.forall_mem_cons.mpr ⟨emk_171, List.forall_mem_cons.mpr ⟨emk_172, List.forall_mem_cons.mpr ⟨emk_173, List.forall_mem_cons.mpr ⟨emk_174, List.forall_mem_cons.mpr ⟨emk_175, List.forall_mem_cons.mpr ⟨emk_176, List.forall_mem_cons.mpr ⟨emk_177, List.forall_mem_cons.mpr ⟨emk_178, List.forall_mem_cons.mpr ⟨emk_179, List.forall_mem_cons.mpr ⟨emk_180, List.forall_mem_cons.mpr ⟨emk_181, List.forall_mem_cons.mpr ⟨emk_182, List.forall_mem_cons.mpr ⟨emk_183, List.forall_mem_cons.mpr ⟨emk_184, List.forall_mem_cons.mpr ⟨emk_185, List.forall_mem_cons.mpr ⟨emk_186, List.forall_mem_cons.mpr ⟨emk_187, List.forall_mem_cons.mpr ⟨emk_188, List.forall_mem_cons.mpr ⟨emk_189, List.forall_mem_cons.mpr ⟨emk_190, List.forall_mem_cons.mpr ⟨emk_191, List.forall_mem_cons.mpr ⟨emk_192, List.forall_mem_cons.mpr ⟨emk_193, List.forall_mem_cons.mpr ⟨emk_194, List.forall_mem_cons.mpr ⟨emk_195, List.forall_mem_cons.mpr ⟨emk_196, List.forall_mem_cons.mpr ⟨emk_197, List.forall_mem_cons.mpr ⟨emk_198, List.forall_mem_cons.mpr ⟨emk_199, List.forall_mem_cons.mpr ⟨emk_200, List.forall_mem_cons.mpr ⟨emk_201, List.forall_mem_cons.mpr ⟨emk_202, List.forall_mem_cons.mpr ⟨emk_203, List.forall_mem_cons.mpr ⟨emk_204, List.forall_mem_cons.mpr ⟨emk_205, List.forall_mem_cons.mpr ⟨emk_206, List.forall_mem_cons.mpr ⟨emk_207, List.forall_mem_cons.mpr ⟨emk_208, List.forall_mem_cons.mpr ⟨emk_209, fun _ h => absurd h List.not_mem_nil⟩⟩⟩⟩⟩⟩⟩⟩⟩⟩⟩⟩⟩⟩⟩⟩⟩⟩⟩⟩⟩⟩⟩⟩⟩⟩⟩⟩⟩⟩⟩⟩⟩⟩⟩⟩⟩⟩⟩⟩⟩⟩⟩⟩⟩⟩⟩⟩⟩⟩⟩⟩⟩⟩⟩⟩⟩⟩⟩⟩⟩⟩⟩⟩⟩⟩⟩⟩⟩⟩
set_option maxRecDepth 100000 in
theorem emL_3 : ∀ z ∈ ([210, 211, 212, 213, 214, 215, 216, 217, 218, 219, 220, 221, 222, 223, 224, 225, 226, 227, 228, 229, 230, 231, 232, 233] : List Nat), EM z := List.forall_mem_cons.mpr ⟨emk_210, List.forall_mem_cons.mpr ⟨emk_211, List.forall_mem_cons.mpr ⟨emk_212, List.forall_mem_cons.mpr ⟨emk_213, List.forall_mem_cons.mpr ⟨emk_214, List.forall_mem_cons.mpr ⟨emk_215, List.forall_mem_cons.mpr ⟨emk_216, List.forall_mem_cons.mpr ⟨emk_217, List.forall_mem_cons.mpr ⟨emk_218, List.forall_mem_cons.mpr ⟨emk_219, List.forall_mem_cons.mpr ⟨emk_220, List.forall_mem_cons.mpr ⟨emk_221, List.forall_mem_cons.mpr ⟨emk_222, List.forall_mem_cons.mpr ⟨emk_223, List.forall_mem_cons.mpr ⟨emk_224, List.forall_mem_cons.mpr ⟨emk_225, List.forall_mem_cons.mpr ⟨emk_226, List.forall_mem_cons.mpr ⟨emk_227, List.forall_mem_cons.mpr ⟨emk_228, List.forall_mem_cons.mpr ⟨emk_229, List.forall_mem_cons.mpr ⟨emk_230, List.forall_mem_cons.mpr ⟨emk_231, List.forall_mem_cons.mpr ⟨emk_232, List.forall_mem_cons.mpr ⟨emk_233, fun _ h => absurd h List.not_mem_nil⟩⟩⟩⟩⟩⟩⟩⟩⟩⟩⟩⟩⟩⟩⟩⟩⟩⟩⟩⟩⟩⟩⟩⟩
set_option maxRecDepth 100000 in
theorem EM_ok {k : Nat} (h : k < 234) : EM k := by
  by_cases h0 : k < 70
  · exact emL_0 k (by (have h9 : k ∈ (List.range 70).drop 0 := by rw [List.mem_iff_getElem]; exact ⟨k - 0, by simp <;> omega, by simp <;> omega⟩); exact h9)
  by_cases h1 : k < 140
  · exact emL_1 k (by (have h9 : k ∈ (List.range 140).drop 70 := by rw [List.mem_iff_getElem]; exact ⟨k - 70, by simp <;> omega, by simp <;> omega⟩); exact h9)
  by_cases h2 : k < 210
  · exact emL_2 k (by (have h9 : k ∈ (List.range 210).drop 140 := by rw [List.mem_iff_getElem]; exact ⟨k - 140, by simp <;> omega, by simp <;> omega⟩); exact h9)
  by_cases h3 : k < 234
  · exact emL_3 k (by (have h9 : k ∈ (List.range 234).drop 210 := by rw [List.mem_iff_getElem]; exact ⟨k - 210, by simp <;> omega, by simp <;> omega⟩); exact h9)
  omega
def PM2 (z : Nat × Nat × Nat × Nat) : Prop := (z.2.2.1 = 4 → Cond.methodLink (cN (z.1 / 1000)) (z.1 % 1000) objectInit ∈ GW) ∧ (z.2.2.1 = 3 → z.1 = 2030 ∧ z.2.1 = 137) ∧ (z.2.2.1 < 3 → z.2.1 < 234 ∧ Cond.methodLink (cN (z.1 / 1000)) (z.1 % 1000) (mN z.2.1) ∈ GW)
set_option maxRecDepth 100000 in
theorem mp_13198 : PM2 (13198, 150, 2, 60) := ⟨fun q => absurd q (by decide), fun q => absurd q (by decide), fun _ => ⟨by decide, by
  show Cond.methodLink _ _ (mN 150) ∈ GW
  unfold mN
  rw [mX_150]
  exact ml_13198⟩⟩
set_option maxRecDepth 100000 in
theorem mp_11001 : PM2 (11001, 0, 4, 63) := ⟨fun _ => ml_11001, fun q => absurd q (by decide), fun q => absurd q (by decide)⟩
set_option maxRecDepth 100000 in
theorem mp_11009 : PM2 (11009, 55, 2, 68) := ⟨fun q => absurd q (by decide), fun q => absurd q (by decide), fun _ => ⟨by decide, by
  show Cond.methodLink _ _ (mN 55) ∈ GW
  unfold mN
  rw [mX_55]
  exact ml_11009⟩⟩
set_option maxRecDepth 100000 in
theorem mp_5003 : PM2 (5003, 0, 4, 71) := ⟨fun _ => ml_5003, fun q => absurd q (by decide), fun q => absurd q (by decide)⟩
set_option maxRecDepth 100000 in
theorem mp_5011 : PM2 (5011, 8, 2, 75) := ⟨fun q => absurd q (by decide), fun q => absurd q (by decide), fun _ => ⟨by decide, by
  show Cond.methodLink _ _ (mN 8) ∈ GW
  unfold mN
  rw [mX_8]
  exact ml_5011⟩⟩
set_option maxRecDepth 100000 in
theorem mp_1003 : PM2 (1003, 0, 4, 78) := ⟨fun _ => ml_1003, fun q => absurd q (by decide), fun q => absurd q (by decide)⟩
set_option maxRecDepth 100000 in
theorem mp_5016 : PM2 (5016, 102, 2, 159) := ⟨fun q => absurd q (by decide), fun q => absurd q (by decide), fun _ => ⟨by decide, by
  show Cond.methodLink _ _ (mN 102) ∈ GW
  unfold mN
  rw [mX_102]
  exact ml_5016⟩⟩
set_option maxRecDepth 100000 in
theorem mp_7003 : PM2 (7003, 0, 4, 162) := ⟨fun _ => ml_7003, fun q => absurd q (by decide), fun q => absurd q (by decide)⟩
set_option maxRecDepth 100000 in
theorem mp_7023 : PM2 (7023, 0, 2, 168) := ⟨fun q => absurd q (by decide), fun q => absurd q (by decide), fun _ => ⟨by decide, by
  show Cond.methodLink _ _ (mN 0) ∈ GW
  unfold mN
  rw [mX_0]
  exact ml_7023⟩⟩
set_option maxRecDepth 100000 in
theorem mp_3 : PM2 (3, 0, 4, 171) := ⟨fun _ => ml_3, fun q => absurd q (by decide), fun q => absurd q (by decide)⟩
set_option maxRecDepth 100000 in
theorem mp_7026 : PM2 (7026, 51, 2, 217) := ⟨fun q => absurd q (by decide), fun q => absurd q (by decide), fun _ => ⟨by decide, by
  show Cond.methodLink _ _ (mN 51) ∈ GW
  unfold mN
  rw [mX_51]
  exact ml_7026⟩⟩
set_option maxRecDepth 100000 in
theorem mp_4001 : PM2 (4001, 0, 4, 220) := ⟨fun _ => ml_4001, fun q => absurd q (by decide), fun q => absurd q (by decide)⟩
set_option maxRecDepth 100000 in
theorem mp_5027 : PM2 (5027, 104, 0, 265) := ⟨fun q => absurd q (by decide), fun q => absurd q (by decide), fun _ => ⟨by decide, by
  show Cond.methodLink _ _ (mN 104) ∈ GW
  unfold mN
  rw [mX_104]
  exact ml_5027⟩⟩
set_option maxRecDepth 100000 in
theorem mp_5031 : PM2 (5031, 71, 2, 269) := ⟨fun q => absurd q (by decide), fun q => absurd q (by decide), fun _ => ⟨by decide, by
  show Cond.methodLink _ _ (mN 71) ∈ GW
  unfold mN
  rw [mX_71]
  exact ml_5031⟩⟩
set_option maxRecDepth 100000 in
theorem mp_6003 : PM2 (6003, 0, 4, 272) := ⟨fun _ => ml_6003, fun q => absurd q (by decide), fun q => absurd q (by decide)⟩
set_option maxRecDepth 100000 in
theorem mp_6021 : PM2 (6021, 140, 2, 276) := ⟨fun q => absurd q (by decide), fun q => absurd q (by decide), fun _ => ⟨by decide, by
  show Cond.methodLink _ _ (mN 140) ∈ GW
  unfold mN
  rw [mX_140]
  exact ml_6021⟩⟩
set_option maxRecDepth 100000 in
theorem mp_10003 : PM2 (10003, 0, 4, 279) := ⟨fun _ => ml_10003, fun q => absurd q (by decide), fun q => absurd q (by decide)⟩
set_option maxRecDepth 100000 in
theorem mp_5040 : PM2 (5040, 119, 2, 398) := ⟨fun q => absurd q (by decide), fun q => absurd q (by decide), fun _ => ⟨by decide, by
  show Cond.methodLink _ _ (mN 119) ∈ GW
  unfold mN
  rw [mX_119]
  exact ml_5040⟩⟩
set_option maxRecDepth 100000 in
theorem mp_8003 : PM2 (8003, 0, 4, 401) := ⟨fun _ => ml_8003, fun q => absurd q (by decide), fun q => absurd q (by decide)⟩
set_option maxRecDepth 100000 in
theorem mp_5049 : PM2 (5049, 45, 2, 418) := ⟨fun q => absurd q (by decide), fun q => absurd q (by decide), fun _ => ⟨by decide, by
  show Cond.methodLink _ _ (mN 45) ∈ GW
  unfold mN
  rw [mX_45]
  exact ml_5049⟩⟩
set_option maxRecDepth 100000 in
theorem mp_3001 : PM2 (3001, 0, 4, 421) := ⟨fun _ => ml_3001, fun q => absurd q (by decide), fun q => absurd q (by decide)⟩
set_option maxRecDepth 100000 in
theorem mp_5056 : PM2 (5056, 16, 2, 431) := ⟨fun q => absurd q (by decide), fun q => absurd q (by decide), fun _ => ⟨by decide, by
  show Cond.methodLink _ _ (mN 16) ∈ GW
  unfold mN
  rw [mX_16]
  exact ml_5056⟩⟩
set_option maxRecDepth 100000 in
theorem mp_2003 : PM2 (2003, 0, 4, 434) := ⟨fun _ => ml_2003, fun q => absurd q (by decide), fun q => absurd q (by decide)⟩
set_option maxRecDepth 100000 in
theorem mp_2030 : PM2 (2030, 137, 3, 440) := ⟨fun q => absurd q (by decide), fun _ => ⟨rfl, rfl⟩, fun q => absurd q (by decide)⟩
set_option maxRecDepth 100000 in
theorem mp_9001 : PM2 (9001, 0, 4, 443) := ⟨fun _ => ml_9001, fun q => absurd q (by decide), fun q => absurd q (by decide)⟩
set_option maxRecDepth 100000 in
theorem mp_5061 : PM2 (5061, 56, 0, 510) := ⟨fun q => absurd q (by decide), fun q => absurd q (by decide), fun _ => ⟨by decide, by
  show Cond.methodLink _ _ (mN 56) ∈ GW
  unfold mN
  rw [mX_56]
  exact ml_5061⟩⟩
set_option maxRecDepth 100000 in
theorem mp_5064 : PM2 (5064, 72, 0, 514) := ⟨fun q => absurd q (by decide), fun q => absurd q (by decide), fun _ => ⟨by decide, by
  show Cond.methodLink _ _ (mN 72) ∈ GW
  unfold mN
  rw [mX_72]
  exact ml_5064⟩⟩
set_option maxRecDepth 100000 in
theorem mp_6024 : PM2 (6024, 9, 0, 518) := ⟨fun q => absurd q (by decide), fun q => absurd q (by decide), fun _ => ⟨by decide, by
  show Cond.methodLink _ _ (mN 9) ∈ GW
  unfold mN
  rw [mX_9]
  exact ml_6024⟩⟩
set_option maxRecDepth 100000 in
theorem mp_1022 : PM2 (1022, 10, 0, 522) := ⟨fun q => absurd q (by decide), fun q => absurd q (by decide), fun _ => ⟨by decide, by
  show Cond.methodLink _ _ (mN 10) ∈ GW
  unfold mN
  rw [mX_10]
  exact ml_1022⟩⟩
set_option maxRecDepth 100000 in
theorem mp_5065 : PM2 (5065, 103, 0, 526) := ⟨fun q => absurd q (by decide), fun q => absurd q (by decide), fun _ => ⟨by decide, by
  show Cond.methodLink _ _ (mN 103) ∈ GW
  unfold mN
  rw [mX_103]
  exact ml_5065⟩⟩
set_option maxRecDepth 100000 in
theorem mp_7029 : PM2 (7029, 1, 0, 530) := ⟨fun q => absurd q (by decide), fun q => absurd q (by decide), fun _ => ⟨by decide, by
  show Cond.methodLink _ _ (mN 1) ∈ GW
  unfold mN
  rw [mX_1]
  exact ml_7029⟩⟩
set_option maxRecDepth 100000 in
theorem mp_5066 : PM2 (5066, 17, 0, 534) := ⟨fun q => absurd q (by decide), fun q => absurd q (by decide), fun _ => ⟨by decide, by
  show Cond.methodLink _ _ (mN 17) ∈ GW
  unfold mN
  rw [mX_17]
  exact ml_5066⟩⟩
set_option maxRecDepth 100000 in
theorem mp_2031 : PM2 (2031, 138, 0, 538) := ⟨fun q => absurd q (by decide), fun q => absurd q (by decide), fun _ => ⟨by decide, by
  show Cond.methodLink _ _ (mN 138) ∈ GW
  unfold mN
  rw [mX_138]
  exact ml_2031⟩⟩
set_option maxRecDepth 100000 in
theorem mp_9023 : PM2 (9023, 139, 0, 542) := ⟨fun q => absurd q (by decide), fun q => absurd q (by decide), fun _ => ⟨by decide, by
  show Cond.methodLink _ _ (mN 139) ∈ GW
  unfold mN
  rw [mX_139]
  exact ml_9023⟩⟩
set_option maxRecDepth 100000 in
theorem mp_13225 : PM2 (13225, 171, 0, 586) := ⟨fun q => absurd q (by decide), fun q => absurd q (by decide), fun _ => ⟨by decide, by
  show Cond.methodLink _ _ (mN 171) ∈ GW
  unfold mN
  rw [mX_171]
  exact ml_13225⟩⟩
set_option maxRecDepth 100000 in
theorem mp_13229 : PM2 (13229, 172, 0, 590) := ⟨fun q => absurd q (by decide), fun q => absurd q (by decide), fun _ => ⟨by decide, by
  show Cond.methodLink _ _ (mN 172) ∈ GW
  unfold mN
  rw [mX_172]
  exact ml_13229⟩⟩
set_option maxRecDepth 100000 in
theorem mp_11193 : PM2 (11193, 56, 0, 594) := ⟨fun q => absurd q (by decide), fun q => absurd q (by decide), fun _ => ⟨by decide, by
  show Cond.methodLink _ _ (mN 56) ∈ GW
  unfold mN
  rw [mX_56]
  exact ml_11193⟩⟩
set_option maxRecDepth 100000 in
theorem mp_11080 : PM2 (11080, 201, 0, 595) := ⟨fun q => absurd q (by decide), fun q => absurd q (by decide), fun _ => ⟨by decide, by
  show Cond.methodLink _ _ (mN 201) ∈ GW
  unfold mN
  rw [mX_201]
  exact ml_11080⟩⟩
set_option maxRecDepth 100000 in
theorem mp_11274 : PM2 (11274, 58, 0, 599) := ⟨fun q => absurd q (by decide), fun q => absurd q (by decide), fun _ => ⟨by decide, by
  show Cond.methodLink _ _ (mN 58) ∈ GW
  unfold mN
  rw [mX_58]
  exact ml_11274⟩⟩
set_option maxRecDepth 100000 in
theorem mp_5087 : PM2 (5087, 73, 0, 604) := ⟨fun q => absurd q (by decide), fun q => absurd q (by decide), fun _ => ⟨by decide, by
  show Cond.methodLink _ _ (mN 73) ∈ GW
  unfold mN
  rw [mX_73]
  exact ml_5087⟩⟩
set_option maxRecDepth 100000 in
theorem mp_5099 : PM2 (5099, 76, 0, 608) := ⟨fun q => absurd q (by decide), fun q => absurd q (by decide), fun _ => ⟨by decide, by
  show Cond.methodLink _ _ (mN 76) ∈ GW
  unfold mN
  rw [mX_76]
  exact ml_5099⟩⟩
set_option maxRecDepth 100000 in
theorem mp_6048 : PM2 (6048, 141, 0, 612) := ⟨fun q => absurd q (by decide), fun q => absurd q (by decide), fun _ => ⟨by decide, by
  show Cond.methodLink _ _ (mN 141) ∈ GW
  unfold mN
  rw [mX_141]
  exact ml_6048⟩⟩
set_option maxRecDepth 100000 in
theorem mp_10043 : PM2 (10043, 205, 1, 617) := ⟨fun q => absurd q (by decide), fun q => absurd q (by decide), fun _ => ⟨by decide, by
  show Cond.methodLink _ _ (mN 205) ∈ GW
  unfold mN
  rw [mX_205]
  exact ml_10043⟩⟩
set_option maxRecDepth 100000 in
theorem mp_5103 : PM2 (5103, 120, 0, 620) := ⟨fun q => absurd q (by decide), fun q => absurd q (by decide), fun _ => ⟨by decide, by
  show Cond.methodLink _ _ (mN 120) ∈ GW
  unfold mN
  rw [mX_120]
  exact ml_5103⟩⟩
set_option maxRecDepth 100000 in
theorem mp_8042 : PM2 (8042, 142, 0, 624) := ⟨fun q => absurd q (by decide), fun q => absurd q (by decide), fun _ => ⟨by decide, by
  show Cond.methodLink _ _ (mN 142) ∈ GW
  unfold mN
  rw [mX_142]
  exact ml_8042⟩⟩
set_option maxRecDepth 100000 in
theorem mp_8059 : PM2 (8059, 143, 0, 628) := ⟨fun q => absurd q (by decide), fun q => absurd q (by decide), fun _ => ⟨by decide, by
  show Cond.methodLink _ _ (mN 143) ∈ GW
  unfold mN
  rw [mX_143]
  exact ml_8059⟩⟩
set_option maxRecDepth 100000 in
theorem mp_8063 : PM2 (8063, 13, 0, 632) := ⟨fun q => absurd q (by decide), fun q => absurd q (by decide), fun _ => ⟨by decide, by
  show Cond.methodLink _ _ (mN 13) ∈ GW
  unfold mN
  rw [mX_13]
  exact ml_8063⟩⟩
set_option maxRecDepth 100000 in
theorem mp_1057 : PM2 (1057, 205, 1, 636) := ⟨fun q => absurd q (by decide), fun q => absurd q (by decide), fun _ => ⟨by decide, by
  show Cond.methodLink _ _ (mN 205) ∈ GW
  unfold mN
  rw [mX_205]
  exact ml_1057⟩⟩
set_option maxRecDepth 100000 in
theorem mp_5112 : PM2 (5112, 64, 0, 637) := ⟨fun q => absurd q (by decide), fun q => absurd q (by decide), fun _ => ⟨by decide, by
  show Cond.methodLink _ _ (mN 64) ∈ GW
  unfold mN
  rw [mX_64]
  exact ml_5112⟩⟩
set_option maxRecDepth 100000 in
theorem mp_5151 : PM2 (5151, 77, 0, 641) := ⟨fun q => absurd q (by decide), fun q => absurd q (by decide), fun _ => ⟨by decide, by
  show Cond.methodLink _ _ (mN 77) ∈ GW
  unfold mN
  rw [mX_77]
  exact ml_5151⟩⟩
set_option maxRecDepth 100000 in
theorem mp_6058 : PM2 (6058, 148, 0, 645) := ⟨fun q => absurd q (by decide), fun q => absurd q (by decide), fun _ => ⟨by decide, by
  show Cond.methodLink _ _ (mN 148) ∈ GW
  unfold mN
  rw [mX_148]
  exact ml_6058⟩⟩
set_option maxRecDepth 100000 in
theorem mp_10087 : PM2 (10087, 209, 1, 649) := ⟨fun q => absurd q (by decide), fun q => absurd q (by decide), fun _ => ⟨by decide, by
  show Cond.methodLink _ _ (mN 209) ∈ GW
  unfold mN
  rw [mX_209]
  exact ml_10087⟩⟩
set_option maxRecDepth 100000 in
theorem mp_6065 : PM2 (6065, 78, 0, 652) := ⟨fun q => absurd q (by decide), fun q => absurd q (by decide), fun _ => ⟨by decide, by
  show Cond.methodLink _ _ (mN 78) ∈ GW
  unfold mN
  rw [mX_78]
  exact ml_6065⟩⟩
set_option maxRecDepth 100000 in
theorem mp_5154 : PM2 (5154, 121, 0, 656) := ⟨fun q => absurd q (by decide), fun q => absurd q (by decide), fun _ => ⟨by decide, by
  show Cond.methodLink _ _ (mN 121) ∈ GW
  unfold mN
  rw [mX_121]
  exact ml_5154⟩⟩
set_option maxRecDepth 100000 in
theorem mp_8075 : PM2 (8075, 80, 0, 661) := ⟨fun q => absurd q (by decide), fun q => absurd q (by decide), fun _ => ⟨by decide, by
  show Cond.methodLink _ _ (mN 80) ∈ GW
  unfold mN
  rw [mX_80]
  exact ml_8075⟩⟩
set_option maxRecDepth 100000 in
theorem mp_6072 : PM2 (6072, 142, 0, 666) := ⟨fun q => absurd q (by decide), fun q => absurd q (by decide), fun _ => ⟨by decide, by
  show Cond.methodLink _ _ (mN 142) ∈ GW
  unfold mN
  rw [mX_142]
  exact ml_6072⟩⟩
set_option maxRecDepth 100000 in
theorem mp_6079 : PM2 (6079, 144, 0, 667) := ⟨fun q => absurd q (by decide), fun q => absurd q (by decide), fun _ => ⟨by decide, by
  show Cond.methodLink _ _ (mN 144) ∈ GW
  unfold mN
  rw [mX_144]
  exact ml_6079⟩⟩
set_option maxRecDepth 100000 in
theorem mp_8080 : PM2 (8080, 93, 0, 672) := ⟨fun q => absurd q (by decide), fun q => absurd q (by decide), fun _ => ⟨by decide, by
  show Cond.methodLink _ _ (mN 93) ∈ GW
  unfold mN
  rw [mX_93]
  exact ml_8080⟩⟩
set_option maxRecDepth 100000 in
theorem mp_8084 : PM2 (8084, 123, 0, 676) := ⟨fun q => absurd q (by decide), fun q => absurd q (by decide), fun _ => ⟨by decide, by
  show Cond.methodLink _ _ (mN 123) ∈ GW
  unfold mN
  rw [mX_123]
  exact ml_8084⟩⟩
set_option maxRecDepth 100000 in
theorem mp_8091 : PM2 (8091, 124, 0, 680) := ⟨fun q => absurd q (by decide), fun q => absurd q (by decide), fun _ => ⟨by decide, by
  show Cond.methodLink _ _ (mN 124) ∈ GW
  unfold mN
  rw [mX_124]
  exact ml_8091⟩⟩
set_option maxRecDepth 100000 in
theorem mp_8095 : PM2 (8095, 125, 0, 684) := ⟨fun q => absurd q (by decide), fun q => absurd q (by decide), fun _ => ⟨by decide, by
  show Cond.methodLink _ _ (mN 125) ∈ GW
  unfold mN
  rw [mX_125]
  exact ml_8095⟩⟩
set_option maxRecDepth 100000 in
theorem mp_8128 : PM2 (8128, 209, 1, 688) := ⟨fun q => absurd q (by decide), fun q => absurd q (by decide), fun _ => ⟨by decide, by
  show Cond.methodLink _ _ (mN 209) ∈ GW
  unfold mN
  rw [mX_209]
  exact ml_8128⟩⟩
set_option maxRecDepth 100000 in
theorem mp_8137 : PM2 (8137, 126, 0, 689) := ⟨fun q => absurd q (by decide), fun q => absurd q (by decide), fun _ => ⟨by decide, by
  show Cond.methodLink _ _ (mN 126) ∈ GW
  unfold mN
  rw [mX_126]
  exact ml_8137⟩⟩
set_option maxRecDepth 100000 in
theorem mp_8141 : PM2 (8141, 127, 0, 693) := ⟨fun q => absurd q (by decide), fun q => absurd q (by decide), fun _ => ⟨by decide, by
  show Cond.methodLink _ _ (mN 127) ∈ GW
  unfold mN
  rw [mX_127]
  exact ml_8141⟩⟩
set_option maxRecDepth 100000 in
theorem mp_8099 : PM2 (8099, 128, 0, 697) := ⟨fun q => absurd q (by decide), fun q => absurd q (by decide), fun _ => ⟨by decide, by
  show Cond.methodLink _ _ (mN 128) ∈ GW
  unfold mN
  rw [mX_128]
  exact ml_8099⟩⟩
set_option maxRecDepth 100000 in
theorem mp_8145 : PM2 (8145, 105, 0, 701) := ⟨fun q => absurd q (by decide), fun q => absurd q (by decide), fun _ => ⟨by decide, by
  show Cond.methodLink _ _ (mN 105) ∈ GW
  unfold mN
  rw [mX_105]
  exact ml_8145⟩⟩
set_option maxRecDepth 100000 in
theorem mp_7040 : PM2 (7040, 52, 0, 705) := ⟨fun q => absurd q (by decide), fun q => absurd q (by decide), fun _ => ⟨by decide, by
  show Cond.methodLink _ _ (mN 52) ∈ GW
  unfold mN
  rw [mX_52]
  exact ml_7040⟩⟩
set_option maxRecDepth 100000 in
theorem mp_7049 : PM2 (7049, 5, 0, 709) := ⟨fun q => absurd q (by decide), fun q => absurd q (by decide), fun _ => ⟨by decide, by
  show Cond.methodLink _ _ (mN 5) ∈ GW
  unfold mN
  rw [mX_5]
  exact ml_7049⟩⟩
set_option maxRecDepth 100000 in
theorem mp_8151 : PM2 (8151, 149, 0, 713) := ⟨fun q => absurd q (by decide), fun q => absurd q (by decide), fun _ => ⟨by decide, by
  show Cond.methodLink _ _ (mN 149) ∈ GW
  unfold mN
  rw [mX_149]
  exact ml_8151⟩⟩
set_option maxRecDepth 100000 in
theorem mp_8155 : PM2 (8155, 89, 0, 717) := ⟨fun q => absurd q (by decide), fun q => absurd q (by decide), fun _ => ⟨by decide, by
  show Cond.methodLink _ _ (mN 89) ∈ GW
  unfold mN
  rw [mX_89]
  exact ml_8155⟩⟩
set_option maxRecDepth 100000 in
theorem mp_8103 : PM2 (8103, 79, 0, 721) := ⟨fun q => absurd q (by decide), fun q => absurd q (by decide), fun _ => ⟨by decide, by
  show Cond.methodLink _ _ (mN 79) ∈ GW
  unfold mN
  rw [mX_79]
  exact ml_8103⟩⟩
set_option maxRecDepth 100000 in
theorem mp_8107 : PM2 (8107, 122, 0, 725) := ⟨fun q => absurd q (by decide), fun q => absurd q (by decide), fun _ => ⟨by decide, by
  show Cond.methodLink _ _ (mN 122) ∈ GW
  unfold mN
  rw [mX_122]
  exact ml_8107⟩⟩
set_option maxRecDepth 100000 in
theorem mp_8116 : PM2 (8116, 77, 0, 729) := ⟨fun q => absurd q (by decide), fun q => absurd q (by decide), fun _ => ⟨by decide, by
  show Cond.methodLink _ _ (mN 77) ∈ GW
  unfold mN
  rw [mX_77]
  exact ml_8116⟩⟩
set_option maxRecDepth 100000 in
theorem mp_11278 : PM2 (11278, 59, 0, 730) := ⟨fun q => absurd q (by decide), fun q => absurd q (by decide), fun _ => ⟨by decide, by
  show Cond.methodLink _ _ (mN 59) ∈ GW
  unfold mN
  rw [mX_59]
  exact ml_11278⟩⟩
set_option maxRecDepth 100000 in
theorem mp_11282 : PM2 (11282, 60, 0, 734) := ⟨fun q => absurd q (by decide), fun q => absurd q (by decide), fun _ => ⟨by decide, by
  show Cond.methodLink _ _ (mN 60) ∈ GW
  unfold mN
  rw [mX_60]
  exact ml_11282⟩⟩
set_option maxRecDepth 100000 in
theorem mp_11286 : PM2 (11286, 61, 0, 738) := ⟨fun q => absurd q (by decide), fun q => absurd q (by decide), fun _ => ⟨by decide, by
  show Cond.methodLink _ _ (mN 61) ∈ GW
  unfold mN
  rw [mX_61]
  exact ml_11286⟩⟩
set_option maxRecDepth 100000 in
theorem mp_11289 : PM2 (11289, 62, 0, 742) := ⟨fun q => absurd q (by decide), fun q => absurd q (by decide), fun _ => ⟨by decide, by
  show Cond.methodLink _ _ (mN 62) ∈ GW
  unfold mN
  rw [mX_62]
  exact ml_11289⟩⟩
set_option maxRecDepth 100000 in
theorem mp_11292 : PM2 (11292, 63, 0, 746) := ⟨fun q => absurd q (by decide), fun q => absurd q (by decide), fun _ => ⟨by decide, by
  show Cond.methodLink _ _ (mN 63) ∈ GW
  unfold mN
  rw [mX_63]
  exact ml_11292⟩⟩
set_option maxRecDepth 100000 in
theorem mp_5131 : PM2 (5131, 86, 0, 750) := ⟨fun q => absurd q (by decide), fun q => absurd q (by decide), fun _ => ⟨by decide, by
  show Cond.methodLink _ _ (mN 86) ∈ GW
  unfold mN
  rw [mX_86]
  exact ml_5131⟩⟩
set_option maxRecDepth 100000 in
theorem mp_11295 : PM2 (11295, 85, 0, 754) := ⟨fun q => absurd q (by decide), fun q => absurd q (by decide), fun _ => ⟨by decide, by
  show Cond.methodLink _ _ (mN 85) ∈ GW
  unfold mN
  rw [mX_85]
  exact ml_11295⟩⟩
set_option maxRecDepth 100000 in
theorem mp_6126 : PM2 (6126, 74, 0, 758) := ⟨fun q => absurd q (by decide), fun q => absurd q (by decide), fun _ => ⟨by decide, by
  show Cond.methodLink _ _ (mN 74) ∈ GW
  unfold mN
  rw [mX_74]
  exact ml_6126⟩⟩
set_option maxRecDepth 100000 in
theorem mp_11038 : PM2 (11038, 73, 0, 762) := ⟨fun q => absurd q (by decide), fun q => absurd q (by decide), fun _ => ⟨by decide, by
  show Cond.methodLink _ _ (mN 73) ∈ GW
  unfold mN
  rw [mX_73]
  exact ml_11038⟩⟩
set_option maxRecDepth 100000 in
theorem mp_11298 : PM2 (11298, 14, 0, 763) := ⟨fun q => absurd q (by decide), fun q => absurd q (by decide), fun _ => ⟨by decide, by
  show Cond.methodLink _ _ (mN 14) ∈ GW
  unfold mN
  rw [mX_14]
  exact ml_11298⟩⟩
set_option maxRecDepth 100000 in
theorem mp_11301 : PM2 (11301, 15, 0, 767) := ⟨fun q => absurd q (by decide), fun q => absurd q (by decide), fun _ => ⟨by decide, by
  show Cond.methodLink _ _ (mN 15) ∈ GW
  unfold mN
  rw [mX_15]
  exact ml_11301⟩⟩
set_option maxRecDepth 100000 in
theorem mp_11150 : PM2 (11150, 104, 0, 771) := ⟨fun q => absurd q (by decide), fun q => absurd q (by decide), fun _ => ⟨by decide, by
  show Cond.methodLink _ _ (mN 104) ∈ GW
  unfold mN
  rw [mX_104]
  exact ml_11150⟩⟩
set_option maxRecDepth 100000 in
theorem mp_11304 : PM2 (11304, 6, 0, 772) := ⟨fun q => absurd q (by decide), fun q => absurd q (by decide), fun _ => ⟨by decide, by
  show Cond.methodLink _ _ (mN 6) ∈ GW
  unfold mN
  rw [mX_6]
  exact ml_11304⟩⟩
set_option maxRecDepth 100000 in
theorem mp_11307 : PM2 (11307, 7, 0, 776) := ⟨fun q => absurd q (by decide), fun q => absurd q (by decide), fun _ => ⟨by decide, by
  show Cond.methodLink _ _ (mN 7) ∈ GW
  unfold mN
  rw [mX_7]
  exact ml_11307⟩⟩
set_option maxRecDepth 100000 in
theorem mp_50 : PM2 (50, 3, 0, 780) := ⟨fun q => absurd q (by decide), fun q => absurd q (by decide), fun _ => ⟨by decide, by
  show Cond.methodLink _ _ (mN 3) ∈ GW
  unfold mN
  rw [mX_3]
  exact ml_50⟩⟩
set_option maxRecDepth 100000 in
theorem mp_11311 : PM2 (11311, 93, 0, 784) := ⟨fun q => absurd q (by decide), fun q => absurd q (by decide), fun _ => ⟨by decide, by
  show Cond.methodLink _ _ (mN 93) ∈ GW
  unfold mN
  rw [mX_93]
  exact ml_11311⟩⟩
set_option maxRecDepth 100000 in
theorem mp_11315 : PM2 (11315, 65, 0, 785) := ⟨fun q => absurd q (by decide), fun q => absurd q (by decide), fun _ => ⟨by decide, by
  show Cond.methodLink _ _ (mN 65) ∈ GW
  unfold mN
  rw [mX_65]
  exact ml_11315⟩⟩
set_option maxRecDepth 100000 in
theorem mp_5160 : PM2 (5160, 90, 0, 789) := ⟨fun q => absurd q (by decide), fun q => absurd q (by decide), fun _ => ⟨by decide, by
  show Cond.methodLink _ _ (mN 90) ∈ GW
  unfold mN
  rw [mX_90]
  exact ml_5160⟩⟩
set_option maxRecDepth 100000 in
theorem mp_6157 : PM2 (6157, 91, 0, 793) := ⟨fun q => absurd q (by decide), fun q => absurd q (by decide), fun _ => ⟨by decide, by
  show Cond.methodLink _ _ (mN 91) ∈ GW
  unfold mN
  rw [mX_91]
  exact ml_6157⟩⟩
set_option maxRecDepth 100000 in
theorem mp_5170 : PM2 (5170, 129, 0, 797) := ⟨fun q => absurd q (by decide), fun q => absurd q (by decide), fun _ => ⟨by decide, by
  show Cond.methodLink _ _ (mN 129) ∈ GW
  unfold mN
  rw [mX_129]
  exact ml_5170⟩⟩
set_option maxRecDepth 100000 in
theorem mp_8159 : PM2 (8159, 133, 0, 801) := ⟨fun q => absurd q (by decide), fun q => absurd q (by decide), fun _ => ⟨by decide, by
  show Cond.methodLink _ _ (mN 133) ∈ GW
  unfold mN
  rw [mX_133]
  exact ml_8159⟩⟩
set_option maxRecDepth 100000 in
theorem mp_8195 : PM2 (8195, 135, 0, 805) := ⟨fun q => absurd q (by decide), fun q => absurd q (by decide), fun _ => ⟨by decide, by
  show Cond.methodLink _ _ (mN 135) ∈ GW
  unfold mN
  rw [mX_135]
  exact ml_8195⟩⟩
set_option maxRecDepth 100000 in
theorem mp_8199 : PM2 (8199, 136, 0, 809) := ⟨fun q => absurd q (by decide), fun q => absurd q (by decide), fun _ => ⟨by decide, by
  show Cond.methodLink _ _ (mN 136) ∈ GW
  unfold mN
  rw [mX_136]
  exact ml_8199⟩⟩
set_option maxRecDepth 100000 in
theorem mp_8203 : PM2 (8203, 205, 1, 813) := ⟨fun q => absurd q (by decide), fun q => absurd q (by decide), fun _ => ⟨by decide, by
  show Cond.methodLink _ _ (mN 205) ∈ GW
  unfold mN
  rw [mX_205]
  exact ml_8203⟩⟩
set_option maxRecDepth 100000 in
theorem mp_8207 : PM2 (8207, 134, 1, 814) := ⟨fun q => absurd q (by decide), fun q => absurd q (by decide), fun _ => ⟨by decide, by
  show Cond.methodLink _ _ (mN 134) ∈ GW
  unfold mN
  rw [mX_134]
  exact ml_8207⟩⟩
set_option maxRecDepth 100000 in
theorem mp_8172 : PM2 (8172, 130, 0, 817) := ⟨fun q => absurd q (by decide), fun q => absurd q (by decide), fun _ => ⟨by decide, by
  show Cond.methodLink _ _ (mN 130) ∈ GW
  unfold mN
  rw [mX_130]
  exact ml_8172⟩⟩
set_option maxRecDepth 100000 in
theorem mp_8183 : PM2 (8183, 131, 0, 821) := ⟨fun q => absurd q (by decide), fun q => absurd q (by decide), fun _ => ⟨by decide, by
  show Cond.methodLink _ _ (mN 131) ∈ GW
  unfold mN
  rw [mX_131]
  exact ml_8183⟩⟩
set_option maxRecDepth 100000 in
theorem mp_8187 : PM2 (8187, 132, 0, 825) := ⟨fun q => absurd q (by decide), fun q => absurd q (by decide), fun _ => ⟨by decide, by
  show Cond.methodLink _ _ (mN 132) ∈ GW
  unfold mN
  rw [mX_132]
  exact ml_8187⟩⟩
set_option maxRecDepth 100000 in
theorem mp_8191 : PM2 (8191, 144, 0, 829) := ⟨fun q => absurd q (by decide), fun q => absurd q (by decide), fun _ => ⟨by decide, by
  show Cond.methodLink _ _ (mN 144) ∈ GW
  unfold mN
  rw [mX_144]
  exact ml_8191⟩⟩
set_option maxRecDepth 100000 in
theorem mp_8179 : PM2 (8179, 94, 0, 830) := ⟨fun q => absurd q (by decide), fun q => absurd q (by decide), fun _ => ⟨by decide, by
  show Cond.methodLink _ _ (mN 94) ∈ GW
  unfold mN
  rw [mX_94]
  exact ml_8179⟩⟩
set_option maxRecDepth 100000 in
theorem mp_5174 : PM2 (5174, 70, 0, 834) := ⟨fun q => absurd q (by decide), fun q => absurd q (by decide), fun _ => ⟨by decide, by
  show Cond.methodLink _ _ (mN 70) ∈ GW
  unfold mN
  rw [mX_70]
  exact ml_5174⟩⟩
set_option maxRecDepth 100000 in
theorem mp_5228 : PM2 (5228, 96, 0, 839) := ⟨fun q => absurd q (by decide), fun q => absurd q (by decide), fun _ => ⟨by decide, by
  show Cond.methodLink _ _ (mN 96) ∈ GW
  unfold mN
  rw [mX_96]
  exact ml_5228⟩⟩
set_option maxRecDepth 100000 in
theorem mp_6182 : PM2 (6182, 146, 0, 843) := ⟨fun q => absurd q (by decide), fun q => absurd q (by decide), fun _ => ⟨by decide, by
  show Cond.methodLink _ _ (mN 146) ∈ GW
  unfold mN
  rw [mX_146]
  exact ml_6182⟩⟩
set_option maxRecDepth 100000 in
theorem mp_5232 : PM2 (5232, 107, 0, 847) := ⟨fun q => absurd q (by decide), fun q => absurd q (by decide), fun _ => ⟨by decide, by
  show Cond.methodLink _ _ (mN 107) ∈ GW
  unfold mN
  rw [mX_107]
  exact ml_5232⟩⟩
set_option maxRecDepth 100000 in
theorem mp_7053 : PM2 (7053, 207, 1, 851) := ⟨fun q => absurd q (by decide), fun q => absurd q (by decide), fun _ => ⟨by decide, by
  show Cond.methodLink _ _ (mN 207) ∈ GW
  unfold mN
  rw [mX_207]
  exact ml_7053⟩⟩
set_option maxRecDepth 100000 in
theorem mp_7059 : PM2 (7059, 106, 0, 854) := ⟨fun q => absurd q (by decide), fun q => absurd q (by decide), fun _ => ⟨by decide, by
  show Cond.methodLink _ _ (mN 106) ∈ GW
  unfold mN
  rw [mX_106]
  exact ml_7059⟩⟩
set_option maxRecDepth 100000 in
theorem mp_5239 : PM2 (5239, 46, 0, 859) := ⟨fun q => absurd q (by decide), fun q => absurd q (by decide), fun _ => ⟨by decide, by
  show Cond.methodLink _ _ (mN 46) ∈ GW
  unfold mN
  rw [mX_46]
  exact ml_5239⟩⟩
set_option maxRecDepth 100000 in
theorem mp_3017 : PM2 (3017, 73, 0, 863) := ⟨fun q => absurd q (by decide), fun q => absurd q (by decide), fun _ => ⟨by decide, by
  show Cond.methodLink _ _ (mN 73) ∈ GW
  unfold mN
  rw [mX_73]
  exact ml_3017⟩⟩
set_option maxRecDepth 100000 in
theorem mp_3036 : PM2 (3036, 81, 0, 864) := ⟨fun q => absurd q (by decide), fun q => absurd q (by decide), fun _ => ⟨by decide, by
  show Cond.methodLink _ _ (mN 81) ∈ GW
  unfold mN
  rw [mX_81]
  exact ml_3036⟩⟩
set_option maxRecDepth 100000 in
theorem mp_6083 : PM2 (6083, 80, 0, 868) := ⟨fun q => absurd q (by decide), fun q => absurd q (by decide), fun _ => ⟨by decide, by
  show Cond.methodLink _ _ (mN 80) ∈ GW
  unfold mN
  rw [mX_80]
  exact ml_6083⟩⟩
set_option maxRecDepth 100000 in
theorem mp_3045 : PM2 (3045, 48, 1, 869) := ⟨fun q => absurd q (by decide), fun q => absurd q (by decide), fun _ => ⟨by decide, by
  show Cond.methodLink _ _ (mN 48) ∈ GW
  unfold mN
  rw [mX_48]
  exact ml_3045⟩⟩
set_option maxRecDepth 100000 in
theorem mp_3066 : PM2 (3066, 11, 0, 872) := ⟨fun q => absurd q (by decide), fun q => absurd q (by decide), fun _ => ⟨by decide, by
  show Cond.methodLink _ _ (mN 11) ∈ GW
  unfold mN
  rw [mX_11]
  exact ml_3066⟩⟩
set_option maxRecDepth 100000 in
theorem mp_3070 : PM2 (3070, 13, 0, 876) := ⟨fun q => absurd q (by decide), fun q => absurd q (by decide), fun _ => ⟨by decide, by
  show Cond.methodLink _ _ (mN 13) ∈ GW
  unfold mN
  rw [mX_13]
  exact ml_3070⟩⟩
set_option maxRecDepth 100000 in
theorem mp_3052 : PM2 (3052, 209, 1, 877) := ⟨fun q => absurd q (by decide), fun q => absurd q (by decide), fun _ => ⟨by decide, by
  show Cond.methodLink _ _ (mN 209) ∈ GW
  unfold mN
  rw [mX_209]
  exact ml_3052⟩⟩
set_option maxRecDepth 100000 in
theorem mp_3058 : PM2 (3058, 49, 0, 878) := ⟨fun q => absurd q (by decide), fun q => absurd q (by decide), fun _ => ⟨by decide, by
  show Cond.methodLink _ _ (mN 49) ∈ GW
  unfold mN
  rw [mX_49]
  exact ml_3058⟩⟩
set_option maxRecDepth 100000 in
theorem mp_3085 : PM2 (3085, 105, 0, 882) := ⟨fun q => absurd q (by decide), fun q => absurd q (by decide), fun _ => ⟨by decide, by
  show Cond.methodLink _ _ (mN 105) ∈ GW
  unfold mN
  rw [mX_105]
  exact ml_3085⟩⟩
set_option maxRecDepth 100000 in
theorem mp_3062 : PM2 (3062, 50, 0, 883) := ⟨fun q => absurd q (by decide), fun q => absurd q (by decide), fun _ => ⟨by decide, by
  show Cond.methodLink _ _ (mN 50) ∈ GW
  unfold mN
  rw [mX_50]
  exact ml_3062⟩⟩
set_option maxRecDepth 100000 in
theorem mp_3090 : PM2 (3090, 149, 0, 887) := ⟨fun q => absurd q (by decide), fun q => absurd q (by decide), fun _ => ⟨by decide, by
  show Cond.methodLink _ _ (mN 149) ∈ GW
  unfold mN
  rw [mX_149]
  exact ml_3090⟩⟩
set_option maxRecDepth 100000 in
theorem mp_3094 : PM2 (3094, 89, 0, 888) := ⟨fun q => absurd q (by decide), fun q => absurd q (by decide), fun _ => ⟨by decide, by
  show Cond.methodLink _ _ (mN 89) ∈ GW
  unfold mN
  rw [mX_89]
  exact ml_3094⟩⟩
set_option maxRecDepth 100000 in
theorem mp_3098 : PM2 (3098, 79, 0, 889) := ⟨fun q => absurd q (by decide), fun q => absurd q (by decide), fun _ => ⟨by decide, by
  show Cond.methodLink _ _ (mN 79) ∈ GW
  unfold mN
  rw [mX_79]
  exact ml_3098⟩⟩
set_option maxRecDepth 100000 in
theorem mp_5243 : PM2 (5243, 47, 0, 890) := ⟨fun q => absurd q (by decide), fun q => absurd q (by decide), fun _ => ⟨by decide, by
  show Cond.methodLink _ _ (mN 47) ∈ GW
  unfold mN
  rw [mX_47]
  exact ml_5243⟩⟩
set_option maxRecDepth 100000 in
theorem mp_5247 : PM2 (5247, 98, 0, 894) := ⟨fun q => absurd q (by decide), fun q => absurd q (by decide), fun _ => ⟨by decide, by
  show Cond.methodLink _ _ (mN 98) ∈ GW
  unfold mN
  rw [mX_98]
  exact ml_5247⟩⟩
set_option maxRecDepth 100000 in
theorem mp_6194 : PM2 (6194, 99, 0, 898) := ⟨fun q => absurd q (by decide), fun q => absurd q (by decide), fun _ => ⟨by decide, by
  show Cond.methodLink _ _ (mN 99) ∈ GW
  unfold mN
  rw [mX_99]
  exact ml_6194⟩⟩
set_option maxRecDepth 100000 in
theorem mp_6197 : PM2 (6197, 100, 0, 902) := ⟨fun q => absurd q (by decide), fun q => absurd q (by decide), fun _ => ⟨by decide, by
  show Cond.methodLink _ _ (mN 100) ∈ GW
  unfold mN
  rw [mX_100]
  exact ml_6197⟩⟩
set_option maxRecDepth 100000 in
theorem mp_6208 : PM2 (6208, 209, 1, 906) := ⟨fun q => absurd q (by decide), fun q => absurd q (by decide), fun _ => ⟨by decide, by
  show Cond.methodLink _ _ (mN 209) ∈ GW
  unfold mN
  rw [mX_209]
  exact ml_6208⟩⟩
set_option maxRecDepth 100000 in
theorem mp_6212 : PM2 (6212, 207, 1, 907) := ⟨fun q => absurd q (by decide), fun q => absurd q (by decide), fun _ => ⟨by decide, by
  show Cond.methodLink _ _ (mN 207) ∈ GW
  unfold mN
  rw [mX_207]
  exact ml_6212⟩⟩
set_option maxRecDepth 100000 in
theorem mp_6215 : PM2 (6215, 11, 0, 908) := ⟨fun q => absurd q (by decide), fun q => absurd q (by decide), fun _ => ⟨by decide, by
  show Cond.methodLink _ _ (mN 11) ∈ GW
  unfold mN
  rw [mX_11]
  exact ml_6215⟩⟩
set_option maxRecDepth 100000 in
theorem mp_6201 : PM2 (6201, 101, 0, 909) := ⟨fun q => absurd q (by decide), fun q => absurd q (by decide), fun _ => ⟨by decide, by
  show Cond.methodLink _ _ (mN 101) ∈ GW
  unfold mN
  rw [mX_101]
  exact ml_6201⟩⟩
set_option maxRecDepth 100000 in
theorem mp_6191 : PM2 (6191, 147, 0, 913) := ⟨fun q => absurd q (by decide), fun q => absurd q (by decide), fun _ => ⟨by decide, by
  show Cond.methodLink _ _ (mN 147) ∈ GW
  unfold mN
  rw [mX_147]
  exact ml_6191⟩⟩
set_option maxRecDepth 100000 in
theorem mp_11318 : PM2 (11318, 95, 0, 917) := ⟨fun q => absurd q (by decide), fun q => absurd q (by decide), fun _ => ⟨by decide, by
  show Cond.methodLink _ _ (mN 95) ∈ GW
  unfold mN
  rw [mX_95]
  exact ml_11318⟩⟩
set_option maxRecDepth 100000 in
theorem mp_11321 : PM2 (11321, 66, 0, 921) := ⟨fun q => absurd q (by decide), fun q => absurd q (by decide), fun _ => ⟨by decide, by
  show Cond.methodLink _ _ (mN 66) ∈ GW
  unfold mN
  rw [mX_66]
  exact ml_11321⟩⟩
set_option maxRecDepth 100000 in
theorem mp_5177 : PM2 (5177, 108, 0, 925) := ⟨fun q => absurd q (by decide), fun q => absurd q (by decide), fun _ => ⟨by decide, by
  show Cond.methodLink _ _ (mN 108) ∈ GW
  unfold mN
  rw [mX_108]
  exact ml_5177⟩⟩
set_option maxRecDepth 100000 in
theorem mp_7071 : PM2 (7071, 107, 0, 929) := ⟨fun q => absurd q (by decide), fun q => absurd q (by decide), fun _ => ⟨by decide, by
  show Cond.methodLink _ _ (mN 107) ∈ GW
  unfold mN
  rw [mX_107]
  exact ml_7071⟩⟩
set_option maxRecDepth 100000 in
theorem mp_5181 : PM2 (5181, 106, 0, 930) := ⟨fun q => absurd q (by decide), fun q => absurd q (by decide), fun _ => ⟨by decide, by
  show Cond.methodLink _ _ (mN 106) ∈ GW
  unfold mN
  rw [mX_106]
  exact ml_5181⟩⟩
set_option maxRecDepth 100000 in
theorem mp_5188 : PM2 (5188, 97, 0, 931) := ⟨fun q => absurd q (by decide), fun q => absurd q (by decide), fun _ => ⟨by decide, by
  show Cond.methodLink _ _ (mN 97) ∈ GW
  unfold mN
  rw [mX_97]
  exact ml_5188⟩⟩
set_option maxRecDepth 100000 in
theorem mp_11324 : PM2 (11324, 109, 0, 935) := ⟨fun q => absurd q (by decide), fun q => absurd q (by decide), fun _ => ⟨by decide, by
  show Cond.methodLink _ _ (mN 109) ∈ GW
  unfold mN
  rw [mX_109]
  exact ml_11324⟩⟩
set_option maxRecDepth 100000 in
theorem mp_11327 : PM2 (11327, 110, 0, 939) := ⟨fun q => absurd q (by decide), fun q => absurd q (by decide), fun _ => ⟨by decide, by
  show Cond.methodLink _ _ (mN 110) ∈ GW
  unfold mN
  rw [mX_110]
  exact ml_11327⟩⟩
set_option maxRecDepth 100000 in
theorem mp_7095 : PM2 (7095, 104, 0, 943) := ⟨fun q => absurd q (by decide), fun q => absurd q (by decide), fun _ => ⟨by decide, by
  show Cond.methodLink _ _ (mN 104) ∈ GW
  unfold mN
  rw [mX_104]
  exact ml_7095⟩⟩
set_option maxRecDepth 100000 in
theorem mp_11331 : PM2 (11331, 112, 0, 944) := ⟨fun q => absurd q (by decide), fun q => absurd q (by decide), fun _ => ⟨by decide, by
  show Cond.methodLink _ _ (mN 112) ∈ GW
  unfold mN
  rw [mX_112]
  exact ml_11331⟩⟩
set_option maxRecDepth 100000 in
theorem mp_7115 : PM2 (7115, 111, 0, 948) := ⟨fun q => absurd q (by decide), fun q => absurd q (by decide), fun _ => ⟨by decide, by
  show Cond.methodLink _ _ (mN 111) ∈ GW
  unfold mN
  rw [mX_111]
  exact ml_7115⟩⟩
set_option maxRecDepth 100000 in
theorem mp_7102 : PM2 (7102, 53, 0, 952) := ⟨fun q => absurd q (by decide), fun q => absurd q (by decide), fun _ => ⟨by decide, by
  show Cond.methodLink _ _ (mN 53) ∈ GW
  unfold mN
  rw [mX_53]
  exact ml_7102⟩⟩
set_option maxRecDepth 100000 in
theorem mp_7107 : PM2 (7107, 203, 1, 956) := ⟨fun q => absurd q (by decide), fun q => absurd q (by decide), fun _ => ⟨by decide, by
  show Cond.methodLink _ _ (mN 203) ∈ GW
  unfold mN
  rw [mX_203]
  exact ml_7107⟩⟩
set_option maxRecDepth 100000 in
theorem mp_7111 : PM2 (7111, 2, 0, 959) := ⟨fun q => absurd q (by decide), fun q => absurd q (by decide), fun _ => ⟨by decide, by
  show Cond.methodLink _ _ (mN 2) ∈ GW
  unfold mN
  rw [mX_2]
  exact ml_7111⟩⟩
set_option maxRecDepth 100000 in
theorem mp_7119 : PM2 (7119, 4, 0, 963) := ⟨fun q => absurd q (by decide), fun q => absurd q (by decide), fun _ => ⟨by decide, by
  show Cond.methodLink _ _ (mN 4) ∈ GW
  unfold mN
  rw [mX_4]
  exact ml_7119⟩⟩
set_option maxRecDepth 100000 in
theorem mp_11335 : PM2 (11335, 113, 0, 967) := ⟨fun q => absurd q (by decide), fun q => absurd q (by decide), fun _ => ⟨by decide, by
  show Cond.methodLink _ _ (mN 113) ∈ GW
  unfold mN
  rw [mX_113]
  exact ml_11335⟩⟩
set_option maxRecDepth 100000 in
theorem mp_7125 : PM2 (7125, 204, 1, 972) := ⟨fun q => absurd q (by decide), fun q => absurd q (by decide), fun _ => ⟨by decide, by
  show Cond.methodLink _ _ (mN 204) ∈ GW
  unfold mN
  rw [mX_204]
  exact ml_7125⟩⟩
set_option maxRecDepth 100000 in
theorem mp_7128 : PM2 (7128, 114, 0, 975) := ⟨fun q => absurd q (by decide), fun q => absurd q (by decide), fun _ => ⟨by decide, by
  show Cond.methodLink _ _ (mN 114) ∈ GW
  unfold mN
  rw [mX_114]
  exact ml_7128⟩⟩
set_option maxRecDepth 100000 in
theorem mp_11338 : PM2 (11338, 67, 0, 979) := ⟨fun q => absurd q (by decide), fun q => absurd q (by decide), fun _ => ⟨by decide, by
  show Cond.methodLink _ _ (mN 67) ∈ GW
  unfold mN
  rw [mX_67]
  exact ml_11338⟩⟩
set_option maxRecDepth 100000 in
theorem mp_5192 : PM2 (5192, 87, 0, 983) := ⟨fun q => absurd q (by decide), fun q => absurd q (by decide), fun _ => ⟨by decide, by
  show Cond.methodLink _ _ (mN 87) ∈ GW
  unfold mN
  rw [mX_87]
  exact ml_5192⟩⟩
set_option maxRecDepth 100000 in
theorem mp_6134 : PM2 (6134, 12, 0, 987) := ⟨fun q => absurd q (by decide), fun q => absurd q (by decide), fun _ => ⟨by decide, by
  show Cond.methodLink _ _ (mN 12) ∈ GW
  unfold mN
  rw [mX_12]
  exact ml_6134⟩⟩
set_option maxRecDepth 100000 in
theorem mp_5195 : PM2 (5195, 118, 0, 991) := ⟨fun q => absurd q (by decide), fun q => absurd q (by decide), fun _ => ⟨by decide, by
  show Cond.methodLink _ _ (mN 118) ∈ GW
  unfold mN
  rw [mX_118]
  exact ml_5195⟩⟩
set_option maxRecDepth 100000 in
theorem mp_7144 : PM2 (7144, 12, 0, 995) := ⟨fun q => absurd q (by decide), fun q => absurd q (by decide), fun _ => ⟨by decide, by
  show Cond.methodLink _ _ (mN 12) ∈ GW
  unfold mN
  rw [mX_12]
  exact ml_7144⟩⟩
set_option maxRecDepth 100000 in
theorem mp_5201 : PM2 (5201, 68, 1, 996) := ⟨fun q => absurd q (by decide), fun q => absurd q (by decide), fun _ => ⟨by decide, by
  show Cond.methodLink _ _ (mN 68) ∈ GW
  unfold mN
  rw [mX_68]
  exact ml_5201⟩⟩
set_option maxRecDepth 100000 in
theorem mp_5212 : PM2 (5212, 209, 1, 999) := ⟨fun q => absurd q (by decide), fun q => absurd q (by decide), fun _ => ⟨by decide, by
  show Cond.methodLink _ _ (mN 209) ∈ GW
  unfold mN
  rw [mX_209]
  exact ml_5212⟩⟩
set_option maxRecDepth 100000 in
theorem mp_5218 : PM2 (5218, 207, 1, 1000) := ⟨fun q => absurd q (by decide), fun q => absurd q (by decide), fun _ => ⟨by decide, by
  show Cond.methodLink _ _ (mN 207) ∈ GW
  unfold mN
  rw [mX_207]
  exact ml_5218⟩⟩
set_option maxRecDepth 100000 in
theorem mp_5208 : PM2 (5208, 117, 0, 1001) := ⟨fun q => absurd q (by decide), fun q => absurd q (by decide), fun _ => ⟨by decide, by
  show Cond.methodLink _ _ (mN 117) ∈ GW
  unfold mN
  rw [mX_117]
  exact ml_5208⟩⟩
set_option maxRecDepth 100000 in
theorem mp_7131 : PM2 (7131, 116, 1, 1005) := ⟨fun q => absurd q (by decide), fun q => absurd q (by decide), fun _ => ⟨by decide, by
  show Cond.methodLink _ _ (mN 116) ∈ GW
  unfold mN
  rw [mX_116]
  exact ml_7131⟩⟩
set_option maxRecDepth 100000 in
theorem mp_7141 : PM2 (7141, 202, 1, 1008) := ⟨fun q => absurd q (by decide), fun q => absurd q (by decide), fun _ => ⟨by decide, by
  show Cond.methodLink _ _ (mN 202) ∈ GW
  unfold mN
  rw [mX_202]
  exact ml_7141⟩⟩
set_option maxRecDepth 100000 in
theorem mp_14143 : PM2 (14143, 203, 1, 1011) := ⟨fun q => absurd q (by decide), fun q => absurd q (by decide), fun _ => ⟨by decide, by
  show Cond.methodLink _ _ (mN 203) ∈ GW
  unfold mN
  rw [mX_203]
  exact ml_14143⟩⟩
set_option maxRecDepth 100000 in
theorem mp_11341 : PM2 (11341, 30, 0, 1012) := ⟨fun q => absurd q (by decide), fun q => absurd q (by decide), fun _ => ⟨by decide, by
  show Cond.methodLink _ _ (mN 30) ∈ GW
  unfold mN
  rw [mX_30]
  exact ml_11341⟩⟩
set_option maxRecDepth 100000 in
theorem mp_2086 : PM2 (2086, 23, 0, 1016) := ⟨fun q => absurd q (by decide), fun q => absurd q (by decide), fun _ => ⟨by decide, by
  show Cond.methodLink _ _ (mN 23) ∈ GW
  unfold mN
  rw [mX_23]
  exact ml_2086⟩⟩
set_option maxRecDepth 100000 in
theorem mp_11344 : PM2 (11344, 31, 0, 1020) := ⟨fun q => absurd q (by decide), fun q => absurd q (by decide), fun _ => ⟨by decide, by
  show Cond.methodLink _ _ (mN 31) ∈ GW
  unfold mN
  rw [mX_31]
  exact ml_11344⟩⟩
set_option maxRecDepth 100000 in
theorem mp_11347 : PM2 (11347, 29, 0, 1024) := ⟨fun q => absurd q (by decide), fun q => absurd q (by decide), fun _ => ⟨by decide, by
  show Cond.methodLink _ _ (mN 29) ∈ GW
  unfold mN
  rw [mX_29]
  exact ml_11347⟩⟩
set_option maxRecDepth 100000 in
theorem mp_2051 : PM2 (2051, 18, 0, 1028) := ⟨fun q => absurd q (by decide), fun q => absurd q (by decide), fun _ => ⟨by decide, by
  show Cond.methodLink _ _ (mN 18) ∈ GW
  unfold mN
  rw [mX_18]
  exact ml_2051⟩⟩
set_option maxRecDepth 100000 in
theorem mp_2069 : PM2 (2069, 27, 0, 1032) := ⟨fun q => absurd q (by decide), fun q => absurd q (by decide), fun _ => ⟨by decide, by
  show Cond.methodLink _ _ (mN 27) ∈ GW
  unfold mN
  rw [mX_27]
  exact ml_2069⟩⟩
set_option maxRecDepth 100000 in
theorem mp_2107 : PM2 (2107, 73, 0, 1036) := ⟨fun q => absurd q (by decide), fun q => absurd q (by decide), fun _ => ⟨by decide, by
  show Cond.methodLink _ _ (mN 73) ∈ GW
  unfold mN
  rw [mX_73]
  exact ml_2107⟩⟩
set_option maxRecDepth 100000 in
theorem mp_2133 : PM2 (2133, 203, 1, 1038) := ⟨fun q => absurd q (by decide), fun q => absurd q (by decide), fun _ => ⟨by decide, by
  show Cond.methodLink _ _ (mN 203) ∈ GW
  unfold mN
  rw [mX_203]
  exact ml_2133⟩⟩
set_option maxRecDepth 100000 in
theorem mp_2058 : PM2 (2058, 24, 0, 1039) := ⟨fun q => absurd q (by decide), fun q => absurd q (by decide), fun _ => ⟨by decide, by
  show Cond.methodLink _ _ (mN 24) ∈ GW
  unfold mN
  rw [mX_24]
  exact ml_2058⟩⟩
set_option maxRecDepth 100000 in
theorem mp_2090 : PM2 (2090, 22, 0, 1043) := ⟨fun q => absurd q (by decide), fun q => absurd q (by decide), fun _ => ⟨by decide, by
  show Cond.methodLink _ _ (mN 22) ∈ GW
  unfold mN
  rw [mX_22]
  exact ml_2090⟩⟩
set_option maxRecDepth 100000 in
theorem mp_2045 : PM2 (2045, 104, 0, 1047) := ⟨fun q => absurd q (by decide), fun q => absurd q (by decide), fun _ => ⟨by decide, by
  show Cond.methodLink _ _ (mN 104) ∈ GW
  unfold mN
  rw [mX_104]
  exact ml_2045⟩⟩
set_option maxRecDepth 100000 in
theorem mp_2080 : PM2 (2080, 2, 0, 1048) := ⟨fun q => absurd q (by decide), fun q => absurd q (by decide), fun _ => ⟨by decide, by
  show Cond.methodLink _ _ (mN 2) ∈ GW
  unfold mN
  rw [mX_2]
  exact ml_2080⟩⟩
set_option maxRecDepth 100000 in
theorem mp_2093 : PM2 (2093, 208, 1, 1049) := ⟨fun q => absurd q (by decide), fun q => absurd q (by decide), fun _ => ⟨by decide, by
  show Cond.methodLink _ _ (mN 208) ∈ GW
  unfold mN
  rw [mX_208]
  exact ml_2093⟩⟩
set_option maxRecDepth 100000 in
theorem mp_2101 : PM2 (2101, 206, 1, 1053) := ⟨fun q => absurd q (by decide), fun q => absurd q (by decide), fun _ => ⟨by decide, by
  show Cond.methodLink _ _ (mN 206) ∈ GW
  unfold mN
  rw [mX_206]
  exact ml_2101⟩⟩
set_option maxRecDepth 100000 in
theorem mp_2062 : PM2 (2062, 26, 0, 1057) := ⟨fun q => absurd q (by decide), fun q => absurd q (by decide), fun _ => ⟨by decide, by
  show Cond.methodLink _ _ (mN 26) ∈ GW
  unfold mN
  rw [mX_26]
  exact ml_2062⟩⟩
set_option maxRecDepth 100000 in
theorem mp_2118 : PM2 (2118, 19, 0, 1061) := ⟨fun q => absurd q (by decide), fun q => absurd q (by decide), fun _ => ⟨by decide, by
  show Cond.methodLink _ _ (mN 19) ∈ GW
  unfold mN
  rw [mX_19]
  exact ml_2118⟩⟩
set_option maxRecDepth 100000 in
theorem mp_2125 : PM2 (2125, 20, 0, 1065) := ⟨fun q => absurd q (by decide), fun q => absurd q (by decide), fun _ => ⟨by decide, by
  show Cond.methodLink _ _ (mN 20) ∈ GW
  unfold mN
  rw [mX_20]
  exact ml_2125⟩⟩
set_option maxRecDepth 100000 in
theorem mp_2128 : PM2 (2128, 25, 0, 1069) := ⟨fun q => absurd q (by decide), fun q => absurd q (by decide), fun _ => ⟨by decide, by
  show Cond.methodLink _ _ (mN 25) ∈ GW
  unfold mN
  rw [mX_25]
  exact ml_2128⟩⟩
set_option maxRecDepth 100000 in
theorem mp_11350 : PM2 (11350, 32, 0, 1073) := ⟨fun q => absurd q (by decide), fun q => absurd q (by decide), fun _ => ⟨by decide, by
  show Cond.methodLink _ _ (mN 32) ∈ GW
  unfold mN
  rw [mX_32]
  exact ml_11350⟩⟩
set_option maxRecDepth 100000 in
theorem mp_11353 : PM2 (11353, 69, 0, 1077) := ⟨fun q => absurd q (by decide), fun q => absurd q (by decide), fun _ => ⟨by decide, by
  show Cond.methodLink _ _ (mN 69) ∈ GW
  unfold mN
  rw [mX_69]
  exact ml_11353⟩⟩
set_option maxRecDepth 100000 in
theorem mp_5221 : PM2 (5221, 34, 0, 1081) := ⟨fun q => absurd q (by decide), fun q => absurd q (by decide), fun _ => ⟨by decide, by
  show Cond.methodLink _ _ (mN 34) ∈ GW
  unfold mN
  rw [mX_34]
  exact ml_5221⟩⟩
set_option maxRecDepth 100000 in
theorem mp_5224 : PM2 (5224, 88, 0, 1085) := ⟨fun q => absurd q (by decide), fun q => absurd q (by decide), fun _ => ⟨by decide, by
  show Cond.methodLink _ _ (mN 88) ∈ GW
  unfold mN
  rw [mX_88]
  exact ml_5224⟩⟩
set_option maxRecDepth 100000 in
theorem mp_11356 : PM2 (11356, 35, 0, 1089) := ⟨fun q => absurd q (by decide), fun q => absurd q (by decide), fun _ => ⟨by decide, by
  show Cond.methodLink _ _ (mN 35) ∈ GW
  unfold mN
  rw [mX_35]
  exact ml_11356⟩⟩
set_option maxRecDepth 100000 in
theorem mp_11359 : PM2 (11359, 37, 0, 1093) := ⟨fun q => absurd q (by decide), fun q => absurd q (by decide), fun _ => ⟨by decide, by
  show Cond.methodLink _ _ (mN 37) ∈ GW
  unfold mN
  rw [mX_37]
  exact ml_11359⟩⟩
set_option maxRecDepth 100000 in
theorem mp_2142 : PM2 (2142, 36, 0, 1097) := ⟨fun q => absurd q (by decide), fun q => absurd q (by decide), fun _ => ⟨by decide, by
  show Cond.methodLink _ _ (mN 36) ∈ GW
  unfold mN
  rw [mX_36]
  exact ml_2142⟩⟩
set_option maxRecDepth 100000 in
theorem mp_2146 : PM2 (2146, 38, 0, 1101) := ⟨fun q => absurd q (by decide), fun q => absurd q (by decide), fun _ => ⟨by decide, by
  show Cond.methodLink _ _ (mN 38) ∈ GW
  unfold mN
  rw [mX_38]
  exact ml_2146⟩⟩
set_option maxRecDepth 100000 in
theorem mp_2159 : PM2 (2159, 4, 0, 1105) := ⟨fun q => absurd q (by decide), fun q => absurd q (by decide), fun _ => ⟨by decide, by
  show Cond.methodLink _ _ (mN 4) ∈ GW
  unfold mN
  rw [mX_4]
  exact ml_2159⟩⟩
set_option maxRecDepth 100000 in
theorem mp_2150 : PM2 (2150, 39, 0, 1106) := ⟨fun q => absurd q (by decide), fun q => absurd q (by decide), fun _ => ⟨by decide, by
  show Cond.methodLink _ _ (mN 39) ∈ GW
  unfold mN
  rw [mX_39]
  exact ml_2150⟩⟩
set_option maxRecDepth 100000 in
theorem mp_2169 : PM2 (2169, 40, 0, 1110) := ⟨fun q => absurd q (by decide), fun q => absurd q (by decide), fun _ => ⟨by decide, by
  show Cond.methodLink _ _ (mN 40) ∈ GW
  unfold mN
  rw [mX_40]
  exact ml_2169⟩⟩
set_option maxRecDepth 100000 in
theorem mp_2180 : PM2 (2180, 210, 1, 1114) := ⟨fun q => absurd q (by decide), fun q => absurd q (by decide), fun _ => ⟨by decide, by
  show Cond.methodLink _ _ (mN 210) ∈ GW
  unfold mN
  rw [mX_210]
  exact ml_2180⟩⟩
set_option maxRecDepth 100000 in
theorem mp_2173 : PM2 (2173, 41, 0, 1117) := ⟨fun q => absurd q (by decide), fun q => absurd q (by decide), fun _ => ⟨by decide, by
  show Cond.methodLink _ _ (mN 41) ∈ GW
  unfold mN
  rw [mX_41]
  exact ml_2173⟩⟩
set_option maxRecDepth 100000 in
theorem mp_2177 : PM2 (2177, 43, 0, 1121) := ⟨fun q => absurd q (by decide), fun q => absurd q (by decide), fun _ => ⟨by decide, by
  show Cond.methodLink _ _ (mN 43) ∈ GW
  unfold mN
  rw [mX_43]
  exact ml_2177⟩⟩
set_option maxRecDepth 100000 in
theorem mp_2183 : PM2 (2183, 42, 0, 1125) := ⟨fun q => absurd q (by decide), fun q => absurd q (by decide), fun _ => ⟨by decide, by
  show Cond.methodLink _ _ (mN 42) ∈ GW
  unfold mN
  rw [mX_42]
  exact ml_2183⟩⟩
set_option maxRecDepth 100000 in
theorem mp_2190 : PM2 (2190, 44, 0, 1129) := ⟨fun q => absurd q (by decide), fun q => absurd q (by decide), fun _ => ⟨by decide, by
  show Cond.methodLink _ _ (mN 44) ∈ GW
  unfold mN
  rw [mX_44]
  exact ml_2190⟩⟩
set_option maxRecDepth 100000 in
theorem mp_2153 : PM2 (2153, 139, 0, 1133) := ⟨fun q => absurd q (by decide), fun q => absurd q (by decide), fun _ => ⟨by decide, by
  show Cond.methodLink _ _ (mN 139) ∈ GW
  unfold mN
  rw [mX_139]
  exact ml_2153⟩⟩
set_option maxRecDepth 100000 in
theorem mp_11362 : PM2 (11362, 70, 0, 1134) := ⟨fun q => absurd q (by decide), fun q => absurd q (by decide), fun _ => ⟨by decide, by
  show Cond.methodLink _ _ (mN 70) ∈ GW
  unfold mN
  rw [mX_70]
  exact ml_11362⟩⟩
set_option maxRecDepth 100000 in
theorem mp_13068 : PM2 (13068, 173, 0, 1135) := ⟨fun q => absurd q (by decide), fun q => absurd q (by decide), fun _ => ⟨by decide, by
  show Cond.methodLink _ _ (mN 173) ∈ GW
  unfold mN
  rw [mX_173]
  exact ml_13068⟩⟩
set_option maxRecDepth 100000 in
theorem mp_13200 : PM2 (13200, 211, 1, 1139) := ⟨fun q => absurd q (by decide), fun q => absurd q (by decide), fun _ => ⟨by decide, by
  show Cond.methodLink _ _ (mN 211) ∈ GW
  unfold mN
  rw [mX_211]
  exact ml_13200⟩⟩
set_option maxRecDepth 100000 in
theorem mp_13204 : PM2 (13204, 228, 1, 1143) := ⟨fun q => absurd q (by decide), fun q => absurd q (by decide), fun _ => ⟨by decide, by
  show Cond.methodLink _ _ (mN 228) ∈ GW
  unfold mN
  rw [mX_228]
  exact ml_13204⟩⟩
set_option maxRecDepth 100000 in
theorem mp_13063 : PM2 (13063, 227, 1, 1146) := ⟨fun q => absurd q (by decide), fun q => absurd q (by decide), fun _ => ⟨by decide, by
  show Cond.methodLink _ _ (mN 227) ∈ GW
  unfold mN
  rw [mX_227]
  exact ml_13063⟩⟩
set_option maxRecDepth 100000 in
theorem mp_13071 : PM2 (13071, 212, 1, 1149) := ⟨fun q => absurd q (by decide), fun q => absurd q (by decide), fun _ => ⟨by decide, by
  show Cond.methodLink _ _ (mN 212) ∈ GW
  unfold mN
  rw [mX_212]
  exact ml_13071⟩⟩
set_option maxRecDepth 100000 in
theorem mp_13008 : PM2 (13008, 151, 0, 1153) := ⟨fun q => absurd q (by decide), fun q => absurd q (by decide), fun _ => ⟨by decide, by
  show Cond.methodLink _ _ (mN 151) ∈ GW
  unfold mN
  rw [mX_151]
  exact ml_13008⟩⟩
set_option maxRecDepth 100000 in
theorem mp_11023 : PM2 (11023, 194, 1, 1157) := ⟨fun q => absurd q (by decide), fun q => absurd q (by decide), fun _ => ⟨by decide, by
  show Cond.methodLink _ _ (mN 194) ∈ GW
  unfold mN
  rw [mX_194]
  exact ml_11023⟩⟩
set_option maxRecDepth 100000 in
theorem mp_11059 : PM2 (11059, 193, 1, 1160) := ⟨fun q => absurd q (by decide), fun q => absurd q (by decide), fun _ => ⟨by decide, by
  show Cond.methodLink _ _ (mN 193) ∈ GW
  unfold mN
  rw [mX_193]
  exact ml_11059⟩⟩
set_option maxRecDepth 100000 in
theorem mp_11027 : PM2 (11027, 195, 1, 1163) := ⟨fun q => absurd q (by decide), fun q => absurd q (by decide), fun _ => ⟨by decide, by
  show Cond.methodLink _ _ (mN 195) ∈ GW
  unfold mN
  rw [mX_195]
  exact ml_11027⟩⟩
set_option maxRecDepth 100000 in
theorem mp_11030 : PM2 (11030, 190, 1, 1166) := ⟨fun q => absurd q (by decide), fun q => absurd q (by decide), fun _ => ⟨by decide, by
  show Cond.methodLink _ _ (mN 190) ∈ GW
  unfold mN
  rw [mX_190]
  exact ml_11030⟩⟩
set_option maxRecDepth 100000 in
theorem mp_11044 : PM2 (11044, 11, 0, 1237) := ⟨fun q => absurd q (by decide), fun q => absurd q (by decide), fun _ => ⟨by decide, by
  show Cond.methodLink _ _ (mN 11) ∈ GW
  unfold mN
  rw [mX_11]
  exact ml_11044⟩⟩
set_option maxRecDepth 100000 in
theorem mp_11049 : PM2 (11049, 198, 1, 1238) := ⟨fun q => absurd q (by decide), fun q => absurd q (by decide), fun _ => ⟨by decide, by
  show Cond.methodLink _ _ (mN 198) ∈ GW
  unfold mN
  rw [mX_198]
  exact ml_11049⟩⟩
set_option maxRecDepth 100000 in
theorem mp_11052 : PM2 (11052, 205, 1, 1241) := ⟨fun q => absurd q (by decide), fun q => absurd q (by decide), fun _ => ⟨by decide, by
  show Cond.methodLink _ _ (mN 205) ∈ GW
  unfold mN
  rw [mX_205]
  exact ml_11052⟩⟩
set_option maxRecDepth 100000 in
theorem mp_11063 : PM2 (11063, 191, 1, 1243) := ⟨fun q => absurd q (by decide), fun q => absurd q (by decide), fun _ => ⟨by decide, by
  show Cond.methodLink _ _ (mN 191) ∈ GW
  unfold mN
  rw [mX_191]
  exact ml_11063⟩⟩
set_option maxRecDepth 100000 in
theorem mp_11070 : PM2 (11070, 57, 0, 1262) := ⟨fun q => absurd q (by decide), fun q => absurd q (by decide), fun _ => ⟨by decide, by
  show Cond.methodLink _ _ (mN 57) ∈ GW
  unfold mN
  rw [mX_57]
  exact ml_11070⟩⟩
set_option maxRecDepth 100000 in
theorem mp_5073 : PM2 (5073, 18, 0, 1266) := ⟨fun q => absurd q (by decide), fun q => absurd q (by decide), fun _ => ⟨by decide, by
  show Cond.methodLink _ _ (mN 18) ∈ GW
  unfold mN
  rw [mX_18]
  exact ml_5073⟩⟩
set_option maxRecDepth 100000 in
theorem mp_5083 : PM2 (5083, 75, 0, 1267) := ⟨fun q => absurd q (by decide), fun q => absurd q (by decide), fun _ => ⟨by decide, by
  show Cond.methodLink _ _ (mN 75) ∈ GW
  unfold mN
  rw [mX_75]
  exact ml_5083⟩⟩
set_option maxRecDepth 100000 in
theorem mp_5091 : PM2 (5091, 83, 0, 1271) := ⟨fun q => absurd q (by decide), fun q => absurd q (by decide), fun _ => ⟨by decide, by
  show Cond.methodLink _ _ (mN 83) ∈ GW
  unfold mN
  rw [mX_83]
  exact ml_5091⟩⟩
set_option maxRecDepth 100000 in
theorem mp_6087 : PM2 (6087, 205, 1, 1275) := ⟨fun q => absurd q (by decide), fun q => absurd q (by decide), fun _ => ⟨by decide, by
  show Cond.methodLink _ _ (mN 205) ∈ GW
  unfold mN
  rw [mX_205]
  exact ml_6087⟩⟩
set_option maxRecDepth 100000 in
theorem mp_6096 : PM2 (6096, 84, 0, 1276) := ⟨fun q => absurd q (by decide), fun q => absurd q (by decide), fun _ => ⟨by decide, by
  show Cond.methodLink _ _ (mN 84) ∈ GW
  unfold mN
  rw [mX_84]
  exact ml_6096⟩⟩
set_option maxRecDepth 100000 in
theorem mp_6112 : PM2 (6112, 2, 0, 1280) := ⟨fun q => absurd q (by decide), fun q => absurd q (by decide), fun _ => ⟨by decide, by
  show Cond.methodLink _ _ (mN 2) ∈ GW
  unfold mN
  rw [mX_2]
  exact ml_6112⟩⟩
set_option maxRecDepth 100000 in
theorem mp_6119 : PM2 (6119, 145, 0, 1281) := ⟨fun q => absurd q (by decide), fun q => absurd q (by decide), fun _ => ⟨by decide, by
  show Cond.methodLink _ _ (mN 145) ∈ GW
  unfold mN
  rw [mX_145]
  exact ml_6119⟩⟩
set_option maxRecDepth 100000 in
theorem mp_6100 : PM2 (6100, 3, 0, 1285) := ⟨fun q => absurd q (by decide), fun q => absurd q (by decide), fun _ => ⟨by decide, by
  show Cond.methodLink _ _ (mN 3) ∈ GW
  unfold mN
  rw [mX_3]
  exact ml_6100⟩⟩
set_option maxRecDepth 100000 in
theorem mp_6105 : PM2 (6105, 10, 0, 1286) := ⟨fun q => absurd q (by decide), fun q => absurd q (by decide), fun _ => ⟨by decide, by
  show Cond.methodLink _ _ (mN 10) ∈ GW
  unfold mN
  rw [mX_10]
  exact ml_6105⟩⟩
set_option maxRecDepth 100000 in
theorem mp_11073 : PM2 (11073, 192, 1, 1287) := ⟨fun q => absurd q (by decide), fun q => absurd q (by decide), fun _ => ⟨by decide, by
  show Cond.methodLink _ _ (mN 192) ∈ GW
  unfold mN
  rw [mX_192]
  exact ml_11073⟩⟩
set_option maxRecDepth 100000 in
theorem mp_11076 : PM2 (11076, 200, 0, 1306) := ⟨fun q => absurd q (by decide), fun q => absurd q (by decide), fun _ => ⟨by decide, by
  show Cond.methodLink _ _ (mN 200) ∈ GW
  unfold mN
  rw [mX_200]
  exact ml_11076⟩⟩
set_option maxRecDepth 100000 in
theorem mp_13075 : PM2 (13075, 220, 1, 1310) := ⟨fun q => absurd q (by decide), fun q => absurd q (by decide), fun _ => ⟨by decide, by
  show Cond.methodLink _ _ (mN 220) ∈ GW
  unfold mN
  rw [mX_220]
  exact ml_13075⟩⟩
set_option maxRecDepth 100000 in
theorem mp_13042 : PM2 (13042, 152, 0, 1313) := ⟨fun q => absurd q (by decide), fun q => absurd q (by decide), fun _ => ⟨by decide, by
  show Cond.methodLink _ _ (mN 152) ∈ GW
  unfold mN
  rw [mX_152]
  exact ml_13042⟩⟩
set_option maxRecDepth 100000 in
theorem mp_13079 : PM2 (13079, 221, 1, 1317) := ⟨fun q => absurd q (by decide), fun q => absurd q (by decide), fun _ => ⟨by decide, by
  show Cond.methodLink _ _ (mN 221) ∈ GW
  unfold mN
  rw [mX_221]
  exact ml_13079⟩⟩
set_option maxRecDepth 100000 in
theorem mp_13046 : PM2 (13046, 153, 0, 1320) := ⟨fun q => absurd q (by decide), fun q => absurd q (by decide), fun _ => ⟨by decide, by
  show Cond.methodLink _ _ (mN 153) ∈ GW
  unfold mN
  rw [mX_153]
  exact ml_13046⟩⟩
set_option maxRecDepth 100000 in
theorem mp_13082 : PM2 (13082, 222, 1, 1324) := ⟨fun q => absurd q (by decide), fun q => absurd q (by decide), fun _ => ⟨by decide, by
  show Cond.methodLink _ _ (mN 222) ∈ GW
  unfold mN
  rw [mX_222]
  exact ml_13082⟩⟩
set_option maxRecDepth 100000 in
theorem mp_13049 : PM2 (13049, 154, 0, 1327) := ⟨fun q => absurd q (by decide), fun q => absurd q (by decide), fun _ => ⟨by decide, by
  show Cond.methodLink _ _ (mN 154) ∈ GW
  unfold mN
  rw [mX_154]
  exact ml_13049⟩⟩
set_option maxRecDepth 100000 in
theorem mp_13085 : PM2 (13085, 219, 1, 1331) := ⟨fun q => absurd q (by decide), fun q => absurd q (by decide), fun _ => ⟨by decide, by
  show Cond.methodLink _ _ (mN 219) ∈ GW
  unfold mN
  rw [mX_219]
  exact ml_13085⟩⟩
set_option maxRecDepth 100000 in
theorem mp_13039 : PM2 (13039, 155, 0, 1334) := ⟨fun q => absurd q (by decide), fun q => absurd q (by decide), fun _ => ⟨by decide, by
  show Cond.methodLink _ _ (mN 155) ∈ GW
  unfold mN
  rw [mX_155]
  exact ml_13039⟩⟩
set_option maxRecDepth 100000 in
theorem mp_11084 : PM2 (11084, 196, 1, 1338) := ⟨fun q => absurd q (by decide), fun q => absurd q (by decide), fun _ => ⟨by decide, by
  show Cond.methodLink _ _ (mN 196) ∈ GW
  unfold mN
  rw [mX_196]
  exact ml_11084⟩⟩
set_option maxRecDepth 100000 in
theorem mp_13088 : PM2 (13088, 213, 1, 1341) := ⟨fun q => absurd q (by decide), fun q => absurd q (by decide), fun _ => ⟨by decide, by
  show Cond.methodLink _ _ (mN 213) ∈ GW
  unfold mN
  rw [mX_213]
  exact ml_13088⟩⟩
set_option maxRecDepth 100000 in
theorem mp_13016 : PM2 (13016, 156, 0, 1344) := ⟨fun q => absurd q (by decide), fun q => absurd q (by decide), fun _ => ⟨by decide, by
  show Cond.methodLink _ _ (mN 156) ∈ GW
  unfold mN
  rw [mX_156]
  exact ml_13016⟩⟩
set_option maxRecDepth 100000 in
theorem mp_11087 : PM2 (11087, 75, 0, 1348) := ⟨fun q => absurd q (by decide), fun q => absurd q (by decide), fun _ => ⟨by decide, by
  show Cond.methodLink _ _ (mN 75) ∈ GW
  unfold mN
  rw [mX_75]
  exact ml_11087⟩⟩
set_option maxRecDepth 100000 in
theorem mp_13207 : PM2 (13207, 229, 1, 1349) := ⟨fun q => absurd q (by decide), fun q => absurd q (by decide), fun _ => ⟨by decide, by
  show Cond.methodLink _ _ (mN 229) ∈ GW
  unfold mN
  rw [mX_229]
  exact ml_13207⟩⟩
set_option maxRecDepth 100000 in
theorem mp_13091 : PM2 (13091, 184, 0, 1352) := ⟨fun q => absurd q (by decide), fun q => absurd q (by decide), fun _ => ⟨by decide, by
  show Cond.methodLink _ _ (mN 184) ∈ GW
  unfold mN
  rw [mX_184]
  exact ml_13091⟩⟩
set_option maxRecDepth 100000 in
theorem mp_13094 : PM2 (13094, 224, 1, 1356) := ⟨fun q => absurd q (by decide), fun q => absurd q (by decide), fun _ => ⟨by decide, by
  show Cond.methodLink _ _ (mN 224) ∈ GW
  unfold mN
  rw [mX_224]
  exact ml_13094⟩⟩
set_option maxRecDepth 100000 in
theorem mp_13052 : PM2 (13052, 163, 0, 1360) := ⟨fun q => absurd q (by decide), fun q => absurd q (by decide), fun _ => ⟨by decide, by
  show Cond.methodLink _ _ (mN 163) ∈ GW
  unfold mN
  rw [mX_163]
  exact ml_13052⟩⟩
set_option maxRecDepth 100000 in
theorem mp_11119 : PM2 (11119, 199, 0, 1364) := ⟨fun q => absurd q (by decide), fun q => absurd q (by decide), fun _ => ⟨by decide, by
  show Cond.methodLink _ _ (mN 199) ∈ GW
  unfold mN
  rw [mX_199]
  exact ml_11119⟩⟩
set_option maxRecDepth 100000 in
theorem mp_11270 : PM2 (11270, 106, 0, 1368) := ⟨fun q => absurd q (by decide), fun q => absurd q (by decide), fun _ => ⟨by decide, by
  show Cond.methodLink _ _ (mN 106) ∈ GW
  unfold mN
  rw [mX_106]
  exact ml_11270⟩⟩
set_option maxRecDepth 100000 in
theorem mp_13098 : PM2 (13098, 225, 1, 1370) := ⟨fun q => absurd q (by decide), fun q => absurd q (by decide), fun _ => ⟨by decide, by
  show Cond.methodLink _ _ (mN 225) ∈ GW
  unfold mN
  rw [mX_225]
  exact ml_13098⟩⟩
set_option maxRecDepth 100000 in
theorem mp_13057 : PM2 (13057, 185, 0, 1373) := ⟨fun q => absurd q (by decide), fun q => absurd q (by decide), fun _ => ⟨by decide, by
  show Cond.methodLink _ _ (mN 185) ∈ GW
  unfold mN
  rw [mX_185]
  exact ml_13057⟩⟩
set_option maxRecDepth 100000 in
theorem mp_11242 : PM2 (11242, 54, 0, 1377) := ⟨fun q => absurd q (by decide), fun q => absurd q (by decide), fun _ => ⟨by decide, by
  show Cond.methodLink _ _ (mN 54) ∈ GW
  unfold mN
  rw [mX_54]
  exact ml_11242⟩⟩
set_option maxRecDepth 100000 in
theorem mp_13101 : PM2 (13101, 223, 1, 1381) := ⟨fun q => absurd q (by decide), fun q => absurd q (by decide), fun _ => ⟨by decide, by
  show Cond.methodLink _ _ (mN 223) ∈ GW
  unfold mN
  rw [mX_223]
  exact ml_13101⟩⟩
set_option maxRecDepth 100000 in
theorem mp_13104 : PM2 (13104, 214, 1, 1384) := ⟨fun q => absurd q (by decide), fun q => absurd q (by decide), fun _ => ⟨by decide, by
  show Cond.methodLink _ _ (mN 214) ∈ GW
  unfold mN
  rw [mX_214]
  exact ml_13104⟩⟩
set_option maxRecDepth 100000 in
theorem mp_13020 : PM2 (13020, 160, 0, 1387) := ⟨fun q => absurd q (by decide), fun q => absurd q (by decide), fun _ => ⟨by decide, by
  show Cond.methodLink _ _ (mN 160) ∈ GW
  unfold mN
  rw [mX_160]
  exact ml_13020⟩⟩
set_option maxRecDepth 100000 in
theorem mp_13107 : PM2 (13107, 182, 0, 1391) := ⟨fun q => absurd q (by decide), fun q => absurd q (by decide), fun _ => ⟨by decide, by
  show Cond.methodLink _ _ (mN 182) ∈ GW
  unfold mN
  rw [mX_182]
  exact ml_13107⟩⟩
set_option maxRecDepth 100000 in
theorem mp_13110 : PM2 (13110, 157, 0, 1395) := ⟨fun q => absurd q (by decide), fun q => absurd q (by decide), fun _ => ⟨by decide, by
  show Cond.methodLink _ _ (mN 157) ∈ GW
  unfold mN
  rw [mX_157]
  exact ml_13110⟩⟩
set_option maxRecDepth 100000 in
theorem mp_13113 : PM2 (13113, 158, 0, 1399) := ⟨fun q => absurd q (by decide), fun q => absurd q (by decide), fun _ => ⟨by decide, by
  show Cond.methodLink _ _ (mN 158) ∈ GW
  unfold mN
  rw [mX_158]
  exact ml_13113⟩⟩
set_option maxRecDepth 100000 in
theorem mp_13116 : PM2 (13116, 161, 0, 1403) := ⟨fun q => absurd q (by decide), fun q => absurd q (by decide), fun _ => ⟨by decide, by
  show Cond.methodLink _ _ (mN 161) ∈ GW
  unfold mN
  rw [mX_161]
  exact ml_13116⟩⟩
set_option maxRecDepth 100000 in
theorem mp_13119 : PM2 (13119, 165, 0, 1407) := ⟨fun q => absurd q (by decide), fun q => absurd q (by decide), fun _ => ⟨by decide, by
  show Cond.methodLink _ _ (mN 165) ∈ GW
  unfold mN
  rw [mX_165]
  exact ml_13119⟩⟩
set_option maxRecDepth 100000 in
theorem mp_13122 : PM2 (13122, 159, 0, 1411) := ⟨fun q => absurd q (by decide), fun q => absurd q (by decide), fun _ => ⟨by decide, by
  show Cond.methodLink _ _ (mN 159) ∈ GW
  unfold mN
  rw [mX_159]
  exact ml_13122⟩⟩
set_option maxRecDepth 100000 in
theorem mp_13125 : PM2 (13125, 188, 0, 1415) := ⟨fun q => absurd q (by decide), fun q => absurd q (by decide), fun _ => ⟨by decide, by
  show Cond.methodLink _ _ (mN 188) ∈ GW
  unfold mN
  rw [mX_188]
  exact ml_13125⟩⟩
set_option maxRecDepth 100000 in
theorem mp_11160 : PM2 (11160, 197, 1, 1419) := ⟨fun q => absurd q (by decide), fun q => absurd q (by decide), fun _ => ⟨by decide, by
  show Cond.methodLink _ _ (mN 197) ∈ GW
  unfold mN
  rw [mX_197]
  exact ml_11160⟩⟩
set_option maxRecDepth 100000 in
theorem mp_11252 : PM2 (11252, 21, 0, 1422) := ⟨fun q => absurd q (by decide), fun q => absurd q (by decide), fun _ => ⟨by decide, by
  show Cond.methodLink _ _ (mN 21) ∈ GW
  unfold mN
  rw [mX_21]
  exact ml_11252⟩⟩
set_option maxRecDepth 100000 in
theorem mp_13129 : PM2 (13129, 167, 0, 1426) := ⟨fun q => absurd q (by decide), fun q => absurd q (by decide), fun _ => ⟨by decide, by
  show Cond.methodLink _ _ (mN 167) ∈ GW
  unfold mN
  rw [mX_167]
  exact ml_13129⟩⟩
set_option maxRecDepth 100000 in
theorem mp_11167 : PM2 (11167, 28, 0, 1430) := ⟨fun q => absurd q (by decide), fun q => absurd q (by decide), fun _ => ⟨by decide, by
  show Cond.methodLink _ _ (mN 28) ∈ GW
  unfold mN
  rw [mX_28]
  exact ml_11167⟩⟩
set_option maxRecDepth 100000 in
theorem mp_13132 : PM2 (13132, 218, 1, 1434) := ⟨fun q => absurd q (by decide), fun q => absurd q (by decide), fun _ => ⟨by decide, by
  show Cond.methodLink _ _ (mN 218) ∈ GW
  unfold mN
  rw [mX_218]
  exact ml_13132⟩⟩
set_option maxRecDepth 100000 in
theorem mp_13035 : PM2 (13035, 168, 0, 1437) := ⟨fun q => absurd q (by decide), fun q => absurd q (by decide), fun _ => ⟨by decide, by
  show Cond.methodLink _ _ (mN 168) ∈ GW
  unfold mN
  rw [mX_168]
  exact ml_13035⟩⟩
set_option maxRecDepth 100000 in
theorem mp_11181 : PM2 (11181, 33, 0, 1441) := ⟨fun q => absurd q (by decide), fun q => absurd q (by decide), fun _ => ⟨by decide, by
  show Cond.methodLink _ _ (mN 33) ∈ GW
  unfold mN
  rw [mX_33]
  exact ml_11181⟩⟩
set_option maxRecDepth 100000 in
theorem mp_13135 : PM2 (13135, 217, 1, 1445) := ⟨fun q => absurd q (by decide), fun q => absurd q (by decide), fun _ => ⟨by decide, by
  show Cond.methodLink _ _ (mN 217) ∈ GW
  unfold mN
  rw [mX_217]
  exact ml_13135⟩⟩
set_option maxRecDepth 100000 in
theorem mp_13031 : PM2 (13031, 169, 0, 1448) := ⟨fun q => absurd q (by decide), fun q => absurd q (by decide), fun _ => ⟨by decide, by
  show Cond.methodLink _ _ (mN 169) ∈ GW
  unfold mN
  rw [mX_169]
  exact ml_13031⟩⟩
set_option maxRecDepth 100000 in
theorem mp_11172 : PM2 (11172, 18, 0, 1452) := ⟨fun q => absurd q (by decide), fun q => absurd q (by decide), fun _ => ⟨by decide, by
  show Cond.methodLink _ _ (mN 18) ∈ GW
  unfold mN
  rw [mX_18]
  exact ml_11172⟩⟩
set_option maxRecDepth 100000 in
theorem mp_13139 : PM2 (13139, 216, 1, 1453) := ⟨fun q => absurd q (by decide), fun q => absurd q (by decide), fun _ => ⟨by decide, by
  show Cond.methodLink _ _ (mN 216) ∈ GW
  unfold mN
  rw [mX_216]
  exact ml_13139⟩⟩
set_option maxRecDepth 100000 in
theorem mp_13028 : PM2 (13028, 170, 0, 1456) := ⟨fun q => absurd q (by decide), fun q => absurd q (by decide), fun _ => ⟨by decide, by
  show Cond.methodLink _ _ (mN 170) ∈ GW
  unfold mN
  rw [mX_170]
  exact ml_13028⟩⟩
set_option maxRecDepth 100000 in
theorem mp_13143 : PM2 (13143, 226, 1, 1460) := ⟨fun q => absurd q (by decide), fun q => absurd q (by decide), fun _ => ⟨by decide, by
  show Cond.methodLink _ _ (mN 226) ∈ GW
  unfold mN
  rw [mX_226]
  exact ml_13143⟩⟩
set_option maxRecDepth 100000 in
theorem mp_13060 : PM2 (13060, 164, 0, 1463) := ⟨fun q => absurd q (by decide), fun q => absurd q (by decide), fun _ => ⟨by decide, by
  show Cond.methodLink _ _ (mN 164) ∈ GW
  unfold mN
  rw [mX_164]
  exact ml_13060⟩⟩
set_option maxRecDepth 100000 in
theorem mp_11157 : PM2 (11157, 115, 0, 1467) := ⟨fun q => absurd q (by decide), fun q => absurd q (by decide), fun _ => ⟨by decide, by
  show Cond.methodLink _ _ (mN 115) ∈ GW
  unfold mN
  rw [mX_115]
  exact ml_11157⟩⟩
set_option maxRecDepth 100000 in
theorem mp_7135 : PM2 (7135, 206, 1, 1471) := ⟨fun q => absurd q (by decide), fun q => absurd q (by decide), fun _ => ⟨by decide, by
  show Cond.methodLink _ _ (mN 206) ∈ GW
  unfold mN
  rw [mX_206]
  exact ml_7135⟩⟩
set_option maxRecDepth 100000 in
theorem mp_13146 : PM2 (13146, 215, 1, 1473) := ⟨fun q => absurd q (by decide), fun q => absurd q (by decide), fun _ => ⟨by decide, by
  show Cond.methodLink _ _ (mN 215) ∈ GW
  unfold mN
  rw [mX_215]
  exact ml_13146⟩⟩
set_option maxRecDepth 100000 in
theorem mp_13024 : PM2 (13024, 162, 0, 1476) := ⟨fun q => absurd q (by decide), fun q => absurd q (by decide), fun _ => ⟨by decide, by
  show Cond.methodLink _ _ (mN 162) ∈ GW
  unfold mN
  rw [mX_162]
  exact ml_13024⟩⟩
set_option maxRecDepth 100000 in
theorem mp_11115 : PM2 (11115, 92, 0, 1480) := ⟨fun q => absurd q (by decide), fun q => absurd q (by decide), fun _ => ⟨by decide, by
  show Cond.methodLink _ _ (mN 92) ∈ GW
  unfold mN
  rw [mX_92]
  exact ml_11115⟩⟩
set_option maxRecDepth 100000 in
theorem mp_13149 : PM2 (13149, 166, 0, 1484) := ⟨fun q => absurd q (by decide), fun q => absurd q (by decide), fun _ => ⟨by decide, by
  show Cond.methodLink _ _ (mN 166) ∈ GW
  unfold mN
  rw [mX_166]
  exact ml_13149⟩⟩
set_option maxRecDepth 100000 in
theorem mp_13211 : PM2 (13211, 230, 1, 1488) := ⟨fun q => absurd q (by decide), fun q => absurd q (by decide), fun _ => ⟨by decide, by
  show Cond.methodLink _ _ (mN 230) ∈ GW
  unfold mN
  rw [mX_230]
  exact ml_13211⟩⟩
set_option maxRecDepth 100000 in
theorem mp_13152 : PM2 (13152, 186, 0, 1491) := ⟨fun q => absurd q (by decide), fun q => absurd q (by decide), fun _ => ⟨by decide, by
  show Cond.methodLink _ _ (mN 186) ∈ GW
  unfold mN
  rw [mX_186]
  exact ml_13152⟩⟩
set_option maxRecDepth 100000 in
theorem mp_11154 : PM2 (11154, 2, 0, 1495) := ⟨fun q => absurd q (by decide), fun q => absurd q (by decide), fun _ => ⟨by decide, by
  show Cond.methodLink _ _ (mN 2) ∈ GW
  unfold mN
  rw [mX_2]
  exact ml_11154⟩⟩
set_option maxRecDepth 100000 in
theorem mp_13155 : PM2 (13155, 189, 0, 1496) := ⟨fun q => absurd q (by decide), fun q => absurd q (by decide), fun _ => ⟨by decide, by
  show Cond.methodLink _ _ (mN 189) ∈ GW
  unfold mN
  rw [mX_189]
  exact ml_13155⟩⟩
set_option maxRecDepth 100000 in
theorem mp_13158 : PM2 (13158, 187, 0, 1500) := ⟨fun q => absurd q (by decide), fun q => absurd q (by decide), fun _ => ⟨by decide, by
  show Cond.methodLink _ _ (mN 187) ∈ GW
  unfold mN
  rw [mX_187]
  exact ml_13158⟩⟩
set_option maxRecDepth 100000 in
theorem mp_13215 : PM2 (13215, 231, 1, 1505) := ⟨fun q => absurd q (by decide), fun q => absurd q (by decide), fun _ => ⟨by decide, by
  show Cond.methodLink _ _ (mN 231) ∈ GW
  unfold mN
  rw [mX_231]
  exact ml_13215⟩⟩
set_option maxRecDepth 100000 in
theorem mp_13164 : PM2 (13164, 176, 0, 1508) := ⟨fun q => absurd q (by decide), fun q => absurd q (by decide), fun _ => ⟨by decide, by
  show Cond.methodLink _ _ (mN 176) ∈ GW
  unfold mN
  rw [mX_176]
  exact ml_13164⟩⟩
set_option maxRecDepth 100000 in
theorem mp_11199 : PM2 (11199, 80, 0, 1512) := ⟨fun q => absurd q (by decide), fun q => absurd q (by decide), fun _ => ⟨by decide, by
  show Cond.methodLink _ _ (mN 80) ∈ GW
  unfold mN
  rw [mX_80]
  exact ml_11199⟩⟩
set_option maxRecDepth 100000 in
theorem mp_13169 : PM2 (13169, 177, 0, 1514) := ⟨fun q => absurd q (by decide), fun q => absurd q (by decide), fun _ => ⟨by decide, by
  show Cond.methodLink _ _ (mN 177) ∈ GW
  unfold mN
  rw [mX_177]
  exact ml_13169⟩⟩
set_option maxRecDepth 100000 in
theorem mp_11203 : PM2 (11203, 82, 0, 1518) := ⟨fun q => absurd q (by decide), fun q => absurd q (by decide), fun _ => ⟨by decide, by
  show Cond.methodLink _ _ (mN 82) ∈ GW
  unfold mN
  rw [mX_82]
  exact ml_11203⟩⟩
set_option maxRecDepth 100000 in
theorem mp_13173 : PM2 (13173, 183, 0, 1522) := ⟨fun q => absurd q (by decide), fun q => absurd q (by decide), fun _ => ⟨by decide, by
  show Cond.methodLink _ _ (mN 183) ∈ GW
  unfold mN
  rw [mX_183]
  exact ml_13173⟩⟩
set_option maxRecDepth 100000 in
theorem mp_11229 : PM2 (11229, 133, 0, 1526) := ⟨fun q => absurd q (by decide), fun q => absurd q (by decide), fun _ => ⟨by decide, by
  show Cond.methodLink _ _ (mN 133) ∈ GW
  unfold mN
  rw [mX_133]
  exact ml_11229⟩⟩
set_option maxRecDepth 100000 in
theorem mp_11235 : PM2 (11235, 135, 0, 1527) := ⟨fun q => absurd q (by decide), fun q => absurd q (by decide), fun _ => ⟨by decide, by
  show Cond.methodLink _ _ (mN 135) ∈ GW
  unfold mN
  rw [mX_135]
  exact ml_11235⟩⟩
set_option maxRecDepth 100000 in
theorem mp_13218 : PM2 (13218, 232, 1, 1528) := ⟨fun q => absurd q (by decide), fun q => absurd q (by decide), fun _ => ⟨by decide, by
  show Cond.methodLink _ _ (mN 232) ∈ GW
  unfold mN
  rw [mX_232]
  exact ml_13218⟩⟩
set_option maxRecDepth 100000 in
theorem mp_13176 : PM2 (13176, 174, 0, 1531) := ⟨fun q => absurd q (by decide), fun q => absurd q (by decide), fun _ => ⟨by decide, by
  show Cond.methodLink _ _ (mN 174) ∈ GW
  unfold mN
  rw [mX_174]
  exact ml_13176⟩⟩
set_option maxRecDepth 100000 in
theorem mp_13179 : PM2 (13179, 175, 0, 1535) := ⟨fun q => absurd q (by decide), fun q => absurd q (by decide), fun _ => ⟨by decide, by
  show Cond.methodLink _ _ (mN 175) ∈ GW
  unfold mN
  rw [mX_175]
  exact ml_13179⟩⟩
set_option maxRecDepth 100000 in
theorem mp_13221 : PM2 (13221, 233, 1, 1539) := ⟨fun q => absurd q (by decide), fun q => absurd q (by decide), fun _ => ⟨by decide, by
  show Cond.methodLink _ _ (mN 233) ∈ GW
  unfold mN
  rw [mX_233]
  exact ml_13221⟩⟩
set_option maxRecDepth 100000 in
theorem mp_13186 : PM2 (13186, 181, 0, 1544) := ⟨fun q => absurd q (by decide), fun q => absurd q (by decide), fun _ => ⟨by decide, by
  show Cond.methodLink _ _ (mN 181) ∈ GW
  unfold mN
  rw [mX_181]
  exact ml_13186⟩⟩
set_option maxRecDepth 100000 in
theorem mp_13189 : PM2 (13189, 178, 0, 1548) := ⟨fun q => absurd q (by decide), fun q => absurd q (by decide), fun _ => ⟨by decide, by
  show Cond.methodLink _ _ (mN 178) ∈ GW
  unfold mN
  rw [mX_178]
  exact ml_13189⟩⟩
set_option maxRecDepth 100000 in
theorem mp_11091 : PM2 (11091, 74, 0, 1552) := ⟨fun q => absurd q (by decide), fun q => absurd q (by decide), fun _ => ⟨by decide, by
  show Cond.methodLink _ _ (mN 74) ∈ GW
  unfold mN
  rw [mX_74]
  exact ml_11091⟩⟩
set_option maxRecDepth 100000 in
theorem mp_13192 : PM2 (13192, 179, 0, 1553) := ⟨fun q => absurd q (by decide), fun q => absurd q (by decide), fun _ => ⟨by decide, by
  show Cond.methodLink _ _ (mN 179) ∈ GW
  unfold mN
  rw [mX_179]
  exact ml_13192⟩⟩
set_option maxRecDepth 100000 in
theorem mp_13195 : PM2 (13195, 180, 0, 1558) := ⟨fun q => absurd q (by decide), fun q => absurd q (by decide), fun _ => ⟨by decide, by
  show Cond.methodLink _ _ (mN 180) ∈ GW
  unfold mN
  rw [mX_180]
  exact ml_13195⟩⟩
set_option maxRecDepth 100000 in
theorem mpL_0 : ∀ z ∈ mT_0, PM2 z := List.forall_mem_cons.mpr ⟨mp_13198, List.forall_mem_cons.mpr ⟨mp_11001, List.forall_mem_cons.mpr ⟨mp_11009, List.forall_mem_cons.mpr ⟨mp_5003, List.forall_mem_cons.mpr ⟨mp_5011, List.forall_mem_cons.mpr ⟨mp_1003, List.forall_mem_cons.mpr ⟨mp_5016, List.forall_mem_cons.mpr ⟨mp_7003, List.forall_mem_cons.mpr ⟨mp_7023, List.forall_mem_cons.mpr ⟨mp_3, List.forall_mem_cons.mpr ⟨mp_7026, List.forall_mem_cons.mpr ⟨mp_4001, List.forall_mem_cons.mpr ⟨mp_5027, List.forall_mem_cons.mpr ⟨mp_5031, List.forall_mem_cons.mpr ⟨mp_6003, List.forall_mem_cons.mpr ⟨mp_6021, List.forall_mem_cons.mpr ⟨mp_10003, List.forall_mem_cons.mpr ⟨mp_5040, List.forall_mem_cons.mpr ⟨mp_8003, List.forall_mem_cons.mpr ⟨mp_5049, List.forall_mem_cons.mpr ⟨mp_3001, List.forall_mem_cons.mpr ⟨mp_5056, List.forall_mem_cons.mpr ⟨mp_2003, List.forall_mem_cons.mpr ⟨mp_2030, List.forall_mem_cons.mpr ⟨mp_9001, List.forall_mem_cons.mpr ⟨mp_5061, List.forall_mem_cons.mpr ⟨mp_5064, List.forall_mem_cons.mpr ⟨mp_6024, List.forall_mem_cons.mpr ⟨mp_1022, List.forall_mem_cons.mpr ⟨mp_5065, List.forall_mem_cons.mpr ⟨mp_7029, List.forall_mem_cons.mpr ⟨mp_5066, List.forall_mem_cons.mpr ⟨mp_2031, List.forall_mem_cons.mpr ⟨mp_9023, List.forall_mem_cons.mpr ⟨mp_13225, List.forall_mem_cons.mpr ⟨mp_13229, List.forall_mem_cons.mpr ⟨mp_11193, List.forall_mem_cons.mpr ⟨mp_11080, List.forall_mem_cons.mpr ⟨mp_11274, List.forall_mem_cons.mpr ⟨mp_5087, List.forall_mem_cons.mpr ⟨mp_5099, List.forall_mem_cons.mpr ⟨mp_6048, List.forall_mem_cons.mpr ⟨mp_10043, List.forall_mem_cons.mpr ⟨mp_5103, List.forall_mem_cons.mpr ⟨mp_8042, List.forall_mem_cons.mpr ⟨mp_8059, List.forall_mem_cons.mpr ⟨mp_8063, List.forall_mem_cons.mpr ⟨mp_1057, List.forall_mem_cons.mpr ⟨mp_5112, List.forall_mem_cons.mpr ⟨mp_5151, List.forall_mem_cons.mpr ⟨mp_6058, List.forall_mem_cons.mpr ⟨mp_10087, List.forall_mem_cons.mpr ⟨mp_6065, List.forall_mem_cons.mpr ⟨mp_5154, List.forall_mem_cons.mpr ⟨mp_8075, List.forall_mem_cons.mpr ⟨mp_6072, List.forall_mem_cons.mpr ⟨mp_6079, List.forall_mem_cons.mpr ⟨mp_8080, List.forall_mem_cons.mpr ⟨mp_8084, List.forall_mem_cons.mpr ⟨mp_8091, List.forall_mem_cons.mpr ⟨mp_8095, List.forall_mem_cons.mpr ⟨mp_8128, List.forall_mem_cons.mpr ⟨mp_8137, List.forall_mem_cons.mpr ⟨mp_8141, List.forall_mem_cons.mpr ⟨mp_8099, List.forall_mem_cons.mpr ⟨mp_8145, List.forall_mem_cons.mpr ⟨mp_7040, List.forall_mem_cons.mpr ⟨mp_7049, List.forall_mem_cons.mpr ⟨mp_8151, List.forall_mem_cons.mpr ⟨mp_8155, List.forall_mem_cons.mpr ⟨mp_8103, List.forall_mem_cons.mpr ⟨mp_8107, List.forall_mem_cons.mpr ⟨mp_8116, List.forall_mem_cons.mpr ⟨mp_11278, List.forall_mem_cons.mpr ⟨mp_11282, List.forall_mem_cons.mpr ⟨mp_11286, List.forall_mem_cons.mpr ⟨mp_11289, List.forall_mem_cons.mpr ⟨mp_11292, List.forall_mem_cons.mpr ⟨mp_5131, List.forall_mem_cons.mpr ⟨mp_11295, List.forall_mem_cons.mpr ⟨mp_6126, List.forall_mem_cons.mpr ⟨mp_11038, List.forall_mem_cons.mpr ⟨mp_11298, List.forall_mem_cons.mpr ⟨mp_11301, List.forall_mem_cons.mpr ⟨mp_11150, List.forall_mem_cons.mpr ⟨mp_11304, List.forall_mem_cons.mpr ⟨mp_11307, List.forall_mem_cons.mpr ⟨mp_50, List.forall_mem_cons.mpr ⟨mp_11311, List.forall_mem_cons.mpr ⟨mp_11315, List.forall_mem_cons.mpr ⟨mp_5160, List.forall_mem_cons.mpr ⟨mp_6157, List.forall_mem_cons.mpr ⟨mp_5170, List.forall_mem_cons.mpr ⟨mp_8159, List.forall_mem_cons.mpr ⟨mp_8195, List.forall_mem_cons.mpr ⟨mp_8199, List.forall_mem_cons.mpr ⟨mp_8203, List.forall_mem_cons.mpr ⟨mp_8207, List.forall_mem_cons.mpr ⟨mp_8172, List.forall_mem_cons.mpr ⟨mp_8183, fun _ h => absurd h List.not_mem_nil⟩⟩⟩⟩⟩⟩⟩⟩⟩⟩⟩⟩⟩⟩⟩⟩⟩⟩⟩⟩⟩⟩⟩⟩⟩⟩⟩⟩⟩⟩⟩⟩⟩⟩⟩⟩⟩⟩⟩⟩⟩⟩⟩⟩⟩⟩⟩⟩⟩⟩⟩⟩⟩⟩⟩⟩⟩⟩⟩⟩⟩⟩⟩⟩⟩⟩⟩⟩⟩⟩⟩⟩⟩⟩⟩⟩⟩⟩⟩⟩⟩⟩⟩⟩⟩⟩⟩⟩⟩⟩⟩⟩⟩⟩⟩⟩⟩⟩⟩⟩
set_option maxRecDepth 100000 in
theorem mpL_1 : ∀ z ∈ mT_1, PM2 z := List.forall_mem_cons.mpr ⟨mp_8187, List.forall_mem_cons.mpr ⟨mp_8191, List.forall_mem_cons.mpr ⟨mp_8179, List.forall_mem_cons.mpr ⟨mp_5174, List.forall_mem_cons.mpr ⟨mp_5228, List.forall_mem_cons.mpr ⟨mp_6182, List.forall_mem_cons.mpr ⟨mp_5232, List.forall_mem_cons.mpr ⟨mp_7053, List.forall_mem_cons.mpr ⟨mp_7059, List.forall_mem_cons.mpr ⟨mp_5239, List.forall_mem_cons.mpr ⟨mp_3017, List.forall_mem_cons.mpr ⟨mp_3036, List.forall_mem_cons.mpr ⟨mp_6083, List.forall_mem_cons.mpr ⟨mp_3045, List.forall_mem_cons.mpr ⟨mp_3066, List.forall_mem_cons.mpr ⟨mp_3070, List.forall_mem_cons.mpr ⟨mp_3052, List.forall_mem_cons.mpr ⟨mp_3058, List.forall_mem_cons.mpr ⟨mp_3085, List.forall_mem_cons.mpr ⟨mp_3062, List.forall_mem_cons.mpr ⟨mp_3090, List.forall_mem_cons.mpr ⟨mp_3094, List.forall_mem_cons.mpr ⟨mp_3098, List.forall_mem_cons.mpr ⟨mp_5243, List.forall_mem_cons.mpr ⟨mp_5247, List.forall_mem_cons.mpr ⟨mp_6194, List.forall_mem_cons.mpr ⟨mp_6197, List.forall_mem_cons.mpr ⟨mp_6208, List.forall_mem_cons.mpr ⟨mp_6212, List.forall_mem_cons.mpr ⟨mp_6215, List.forall_mem_cons.mpr ⟨mp_6201, List.forall_mem_cons.mpr ⟨mp_6191, List.forall_mem_cons.mpr ⟨mp_11318, List.forall_mem_cons.mpr ⟨mp_11321, List.forall_mem_cons.mpr ⟨mp_5177, List.forall_mem_cons.mpr ⟨mp_7071, List.forall_mem_cons.mpr ⟨mp_5181, List.forall_mem_cons.mpr ⟨mp_5188, List.forall_mem_cons.mpr ⟨mp_11324, List.forall_mem_cons.mpr ⟨mp_11327, List.forall_mem_cons.mpr ⟨mp_7095, List.forall_mem_cons.mpr ⟨mp_11331, List.forall_mem_cons.mpr ⟨mp_7115, List.forall_mem_cons.mpr ⟨mp_7102, List.forall_mem_cons.mpr ⟨mp_7107, List.forall_mem_cons.mpr ⟨mp_7111, List.forall_mem_cons.mpr ⟨mp_7119, List.forall_mem_cons.mpr ⟨mp_11335, List.forall_mem_cons.mpr ⟨mp_7125, List.forall_mem_cons.mpr ⟨mp_7128, List.forall_mem_cons.mpr ⟨mp_11338, List.forall_mem_cons.mpr ⟨mp_5192, List.forall_mem_cons.mpr ⟨mp_6134, List.forall_mem_cons.mpr ⟨mp_5195, List.forall_mem_cons.mpr ⟨mp_7144, List.forall_mem_cons.mpr ⟨mp_5201, List.forall_mem_cons.mpr ⟨mp_5212, List.forall_mem_cons.mpr ⟨mp_5218, List.forall_mem_cons.mpr ⟨mp_5208, List.forall_mem_cons.mpr ⟨mp_7131, List.forall_mem_cons.mpr ⟨mp_7141, List.forall_mem_cons.mpr ⟨mp_14143, List.forall_mem_cons.mpr ⟨mp_11341, List.forall_mem_cons.mpr ⟨mp_2086, List.forall_mem_cons.mpr ⟨mp_11344, List.forall_mem_cons.mpr ⟨mp_11347, List.forall_mem_cons.mpr ⟨mp_2051, List.forall_mem_cons.mpr ⟨mp_2069, List.forall_mem_cons.mpr ⟨mp_2107, List.forall_mem_cons.mpr ⟨mp_2133, List.forall_mem_cons.mpr ⟨mp_2058, List.forall_mem_cons.mpr ⟨mp_2090, List.forall_mem_cons.mpr ⟨mp_2045, List.forall_mem_cons.mpr ⟨mp_2080, List.forall_mem_cons.mpr ⟨mp_2093, List.forall_mem_cons.mpr ⟨mp_2101, List.forall_mem_cons.mpr ⟨mp_2062, List.forall_mem_cons.mpr ⟨mp_2118, List.forall_mem_cons.mpr ⟨mp_2125, List.forall_mem_cons.mpr ⟨mp_2128, List.forall_mem_cons.mpr ⟨mp_11350, List.forall_mem_cons.mpr ⟨mp_11353, List.forall_mem_cons.mpr ⟨mp_5221, List.forall_mem_cons.mpr ⟨mp_5224, List.forall_mem_cons.mpr ⟨mp_11356, List.forall_mem_cons.mpr ⟨mp_11359, List.forall_mem_cons.mpr ⟨mp_2142, List.forall_mem_cons.mpr ⟨mp_2146, List.forall_mem_cons.mpr ⟨mp_2159, List.forall_mem_cons.mpr ⟨mp_2150, List.forall_mem_cons.mpr ⟨mp_2169, List.forall_mem_cons.mpr ⟨mp_2180, List.forall_mem_cons.mpr ⟨mp_2173, List.forall_mem_cons.mpr ⟨mp_2177, List.forall_mem_cons.mpr ⟨mp_2183, List.forall_mem_cons.mpr ⟨mp_2190, List.forall_mem_cons.mpr ⟨mp_2153, List.forall_mem_cons.mpr ⟨mp_11362, List.forall_mem_cons.mpr ⟨mp_13068, List.forall_mem_cons.mpr ⟨mp_13200, fun _ h => absurd h List.not_mem_nil⟩⟩⟩⟩⟩⟩⟩⟩⟩⟩⟩⟩⟩⟩⟩⟩⟩⟩⟩⟩⟩⟩⟩⟩⟩⟩⟩⟩⟩⟩⟩⟩⟩⟩⟩⟩⟩⟩⟩⟩⟩⟩⟩⟩⟩⟩⟩⟩⟩⟩⟩⟩⟩⟩⟩⟩⟩⟩⟩⟩⟩⟩⟩⟩⟩⟩⟩⟩⟩⟩⟩⟩⟩⟩⟩⟩⟩⟩⟩⟩⟩⟩⟩⟩⟩⟩⟩⟩⟩⟩⟩⟩⟩⟩⟩⟩⟩⟩⟩⟩
set_option maxRecDepth 100000 in
theorem mpL_2 : ∀ z ∈ mT_2, PM2 z := List.forall_mem_cons.mpr ⟨mp_13204, List.forall_mem_cons.mpr ⟨mp_13063, List.forall_mem_cons.mpr ⟨mp_13071, List.forall_mem_cons.mpr ⟨mp_13008, List.forall_mem_cons.mpr ⟨mp_11023, List.forall_mem_cons.mpr ⟨mp_11059, List.forall_mem_cons.mpr ⟨mp_11027, List.forall_mem_cons.mpr ⟨mp_11030, List.forall_mem_cons.mpr ⟨mp_11044, List.forall_mem_cons.mpr ⟨mp_11049, List.forall_mem_cons.mpr ⟨mp_11052, List.forall_mem_cons.mpr ⟨mp_11063, List.forall_mem_cons.mpr ⟨mp_11070, List.forall_mem_cons.mpr ⟨mp_5073, List.forall_mem_cons.mpr ⟨mp_5083, List.forall_mem_cons.mpr ⟨mp_5091, List.forall_mem_cons.mpr ⟨mp_6087, List.forall_mem_cons.mpr ⟨mp_6096, List.forall_mem_cons.mpr ⟨mp_6112, List.forall_mem_cons.mpr ⟨mp_6119, List.forall_mem_cons.mpr ⟨mp_6100, List.forall_mem_cons.mpr ⟨mp_6105, List.forall_mem_cons.mpr ⟨mp_11073, List.forall_mem_cons.mpr ⟨mp_11076, List.forall_mem_cons.mpr ⟨mp_13075, List.forall_mem_cons.mpr ⟨mp_13042, List.forall_mem_cons.mpr ⟨mp_13079, List.forall_mem_cons.mpr ⟨mp_13046, List.forall_mem_cons.mpr ⟨mp_13082, List.forall_mem_cons.mpr ⟨mp_13049, List.forall_mem_cons.mpr ⟨mp_13085, List.forall_mem_cons.mpr ⟨mp_13039, List.forall_mem_cons.mpr ⟨mp_11084, List.forall_mem_cons.mpr ⟨mp_13088, List.forall_mem_cons.mpr ⟨mp_13016, List.forall_mem_cons.mpr ⟨mp_11087, List.forall_mem_cons.mpr ⟨mp_13207, List.forall_mem_cons.mpr ⟨mp_13091, List.forall_mem_cons.mpr ⟨mp_13094, List.forall_mem_cons.mpr ⟨mp_13052, List.forall_mem_cons.mpr ⟨mp_11119, List.forall_mem_cons.mpr ⟨mp_11270, List.forall_mem_cons.mpr ⟨mp_13098, List.forall_mem_cons.mpr ⟨mp_13057, List.forall_mem_cons.mpr ⟨mp_11242, List.forall_mem_cons.mpr ⟨mp_13101, List.forall_mem_cons.mpr ⟨mp_13104, List.forall_mem_cons.mpr ⟨mp_13020, List.forall_mem_cons.mpr ⟨mp_13107, List.forall_mem_cons.mpr ⟨mp_13110, List.forall_mem_cons.mpr ⟨mp_13113, List.forall_mem_cons.mpr ⟨mp_13116, List.forall_mem_cons.mpr ⟨mp_13119, List.forall_mem_cons.mpr ⟨mp_13122, List.forall_mem_cons.mpr ⟨mp_13125, List.forall_mem_cons.mpr ⟨mp_11160, List.forall_mem_cons.mpr ⟨mp_11252, List.forall_mem_cons.mpr ⟨mp_13129, List.forall_mem_cons.mpr ⟨mp_11167, List.forall_mem_cons.mpr ⟨mp_13132, List.forall_mem_cons.mpr ⟨mp_13035, List.forall_mem_cons.mpr ⟨mp_11181, List.forall_mem_cons.mpr ⟨mp_13135, List.forall_mem_cons.mpr ⟨mp_13031, List.forall_mem_cons.mpr ⟨mp_11172, List.forall_mem_cons.mpr ⟨mp_13139, List.forall_mem_cons.mpr ⟨mp_13028, List.forall_mem_cons.mpr ⟨mp_13143, List.forall_mem_cons.mpr ⟨mp_13060, List.forall_mem_cons.mpr ⟨mp_11157, List.forall_mem_cons.mpr ⟨mp_7135, List.forall_mem_cons.mpr ⟨mp_13146, List.forall_mem_cons.mpr ⟨mp_13024, List.forall_mem_cons.mpr ⟨mp_11115, List.forall_mem_cons.mpr ⟨mp_13149, List.forall_mem_cons.mpr ⟨mp_13211, List.forall_mem_cons.mpr ⟨mp_13152, List.forall_mem_cons.mpr ⟨mp_11154, List.forall_mem_cons.mpr ⟨mp_13155, List.forall_mem_cons.mpr ⟨mp_13158, List.forall_mem_cons.mpr ⟨mp_13215, List.forall_mem_cons.mpr ⟨mp_13164, List.forall_mem_cons.mpr ⟨mp_11199, List.forall_mem_cons.mpr ⟨mp_13169, List.forall_mem_cons.mpr ⟨mp_11203, List.forall_mem_cons.mpr ⟨mp_13173, List.forall_mem_cons.mpr ⟨mp_11229, List.forall_mem_cons.mpr ⟨mp_11235, List.forall_mem_cons.mpr ⟨mp_13218, List.forall_mem_cons.mpr ⟨mp_13176, List.forall_mem_cons.mpr ⟨mp_13179, List.forall_mem_cons.mpr ⟨mp_13221, List.forall_mem_cons.mpr ⟨mp_13186, List.forall_mem_cons.mpr ⟨mp_13189, List.forall_mem_cons.mpr ⟨mp_11091, List.forall_mem_cons.mpr ⟨mp_13192, List.forall_mem_cons.mpr ⟨mp_13195, fun _ h => absurd h List.not_mem_nil⟩⟩⟩⟩⟩⟩⟩⟩⟩⟩⟩⟩⟩⟩⟩⟩⟩⟩⟩⟩⟩⟩⟩⟩⟩⟩⟩⟩⟩⟩⟩⟩⟩⟩⟩⟩⟩⟩⟩⟩⟩⟩⟩⟩⟩⟩⟩⟩⟩⟩⟩⟩⟩⟩⟩⟩⟩⟩⟩⟩⟩⟩⟩⟩⟩⟩⟩⟩⟩⟩⟩⟩⟩⟩⟩⟩⟩⟩⟩⟩⟩⟩⟩⟩⟩⟩⟩⟩⟩⟩⟩⟩⟩⟩⟩⟩⟩
set_option maxRecDepth 100000 in
theorem mT_ok2 : ∀ z ∈ mT, PM2 z := by
  intro z hz
  rcases List.mem_append.mp hz with hz | hz
  · exact mpL_0 z hz
  rcases List.mem_append.mp hz with hz | hz
  · exact mpL_1 z hz
  exact mpL_2 z hz
theorem pM_ok {o q c kd ps : Nat} (h : pM o q = some (c, kd, ps)) : (kd = 4 → Cond.methodLink (cN o) q objectInit ∈ GW) ∧ (kd = 3 → o = 2 ∧ q = 30 ∧ c = 137) ∧ (kd < 3 → c < 234 ∧ Cond.methodLink (cN o) q (mN c) ∈ GW) := by
  unfold pM at h
  by_cases hq : q < 1000
  · rw [if_pos hq] at h
    have h1 := mT_ok2 _ (lk_mem h)
    have h2 := key_div (o := o) hq
    unfold PM2 at h1
    dsimp only at h1
    rw [h2.1, h2.2] at h1
    exact ⟨h1.1, fun q9 => by have := h1.2.1 q9; exact ⟨by omega, by omega, this.2⟩, h1.2.2⟩
  · rw [if_neg hq] at h
    cases h
