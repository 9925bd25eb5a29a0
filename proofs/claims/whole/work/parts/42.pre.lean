/-! ===== the law up to its loop, by hand ===== -/
def lsS : List (Option MV) := [some (rv 1 (some 0)), some (rv 21 (some 0)), some (rv 22 (some 0)), some (rv 99 (some 0)), some (iv 0), none, none]
theorem law_ck : mMx mLaw = 7 ∧ mOw mLaw = 13 ∧ mHt mLaw = [] ∧ mLaw < mNo ∧ clsN 13 = "FairHouseLaw" ∧ mRt mLaw = ret ∧ (mNm mLaw).name = "law" := by
  refine ⟨by decide +kernel, by decide +kernel, by decide +kernel, by decide +kernel, by decide +kernel, rfl, by decide +kernel⟩
theorem law_by : mBy mLaw = code := rfl
theorem ld0 : decode (mBy mLaw) 0 = .ok (.new 8, 3) := by decide +kernel
theorem ld3 : decode (mBy mLaw) 3 = .ok (.dup, 1) := by decide +kernel
theorem ld4 : decode (mBy mLaw) 4 = .ok (.invokespecial 64, 3) := by decide +kernel
theorem ld7 : decode (mBy mLaw) 7 = .ok (.astore_n 1, 1) := by decide +kernel
theorem ld8 : decode (mBy mLaw) 8 = .ok (.new 65, 3) := by decide +kernel
theorem ld11 : decode (mBy mLaw) 11 = .ok (.dup, 1) := by decide +kernel
theorem ld12 : decode (mBy mLaw) 12 = .ok (.invokespecial 67, 3) := by decide +kernel
theorem ld15 : decode (mBy mLaw) 15 = .ok (.astore_n 2, 1) := by decide +kernel
theorem ld16 : decode (mBy mLaw) 16 = .ok (.iconst 1, 1) := by decide +kernel
theorem ld17 : decode (mBy mLaw) 17 = .ok (.newarray .long, 2) := by decide +kernel
theorem ld19 : decode (mBy mLaw) 19 = .ok (.astore_n 3, 1) := by decide +kernel
theorem ld20 : decode (mBy mLaw) 20 = .ok (.iconst 0, 1) := by decide +kernel
theorem ld21 : decode (mBy mLaw) 21 = .ok (.istore 4, 2) := by decide +kernel
