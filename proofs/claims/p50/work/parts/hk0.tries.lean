/-! the law tries: what is refused is true -/
section Tries
variable {M M1 : Mem} {a b c d ans : Int32} {code : Nat}
theorem no_212 (hc : code = 0 ∨ code = 3) (h : X 151 0 [rR 3 11 1, vI a, vI b, vI c, vI d, vI (cn 0), vI (cn 1), vJ] [] M = evR code [0, 1, 2] (some (.inl (some (vI ans)), M1)) M) : X 212 0 [rR 3 11 1, vI a, vI b, vI c, vI d, vJ] [] M = some (.inl (some (vI (if code = 0 then cn 0 else cn 1))), if code = 0 then M1 else xc M) := by
  rcases hc with rfl | rfl
  · have h2 : X 151 0 [rR 3 11 1, vI a, vI b, vI c, vI d, vI (cn 0), vI (cn 1), vJ] [] M = some (.inl (some (vI ans)), M1) := h
    refine y_cal yk212 8 11 rfl h2 ?_
    exact y_ret yk212 4 rfl rfl
  · have h2 : X 151 0 [rR 3 11 1, vI a, vI b, vI c, vI d, vI (cn 0), vI (cn 1), vJ] [] M = some (.inr 2, xc M) := h
    refine y_hnd yk212 8 11 17 5 rfl h2 (by decide +kernel) (by decide +kernel) rfl ?_
    exact y_ret yk212 2 rfl rfl
theorem no_213 (hc : code = 0 ∨ code = 3) (h : X 156 0 [rR 3 11 1, vI a, vI b, vI c, vI (c + cn 4), vI (cn 3), vJ] [] M = evR code [0, 1, 2] (some (.inl (some (vI ans)), M1)) M) : X 213 0 [rR 3 11 1, vI a, vI b, vI c, vJ] [] M = some (.inl (some (vI (if code = 0 then cn 0 else cn 1))), if code = 0 then M1 else xc M) := by
  rcases hc with rfl | rfl
  · have h2 : X 156 0 [rR 3 11 1, vI a, vI b, vI c, vI (c + cn 4), vI (cn 3), vJ] [] M = some (.inl (some (vI ans)), M1) := h
    refine y_cal yk213 9 11 rfl h2 ?_
    exact y_ret yk213 4 rfl rfl
  · have h2 : X 156 0 [rR 3 11 1, vI a, vI b, vI c, vI (c + cn 4), vI (cn 3), vJ] [] M = some (.inr 2, xc M) := h
    refine y_hnd yk213 9 11 17 4 rfl h2 (by decide +kernel) (by decide +kernel) rfl ?_
    exact y_ret yk213 2 rfl rfl
theorem no_214 (hc : code = 0 ∨ code = 3) (h : X 160 0 [rR 3 11 1, vI a, vI (cn 2), vI (cn 0), vI (cn 0)] [] M = evR code [0, 1, 2] (some (.inl (some (vI ans)), M1)) M) : X 214 0 [rR 3 11 1, vI a, vJ] [] M = some (.inl (some (vI (if code = 0 then cn 0 else cn 1))), if code = 0 then M1 else xc M) := by
  rcases hc with rfl | rfl
  · have h2 : X 160 0 [rR 3 11 1, vI a, vI (cn 2), vI (cn 0), vI (cn 0)] [] M = some (.inl (some (vI ans)), M1) := h
    refine y_cal yk214 6 8 rfl h2 ?_
    exact y_ret yk214 4 rfl rfl
  · have h2 : X 160 0 [rR 3 11 1, vI a, vI (cn 2), vI (cn 0), vI (cn 0)] [] M = some (.inr 2, xc M) := h
    refine y_hnd yk214 6 8 13 2 rfl h2 (by decide +kernel) (by decide +kernel) rfl ?_
    exact y_ret yk214 2 rfl rfl
theorem no_215 (hc : code = 0 ∨ code = 1) (h : X 162 0 [rR 3 11 1] [] M = evR code [2] (some (.inl (some (vI ans)), M1)) M) : X 215 0 [rR 3 11 1, vJ] [] M = some (.inl (some (vI (if code = 0 then cn 0 else cn 1))), if code = 0 then M1 else xc M) := by
  rcases hc with rfl | rfl
  · have h2 : X 162 0 [rR 3 11 1] [] M = some (.inl (some (vI ans)), M1) := h
    refine y_cal yk215 2 4 rfl h2 ?_
    exact y_ret yk215 4 rfl rfl
  · have h2 : X 162 0 [rR 3 11 1] [] M = some (.inr 2, xc M) := h
    refine y_hnd yk215 2 4 9 1 rfl h2 (by decide +kernel) (by decide +kernel) rfl ?_
    exact y_ret yk215 2 rfl rfl
theorem no_216 (hc : code = 0 ∨ code = 1) (h : X 170 0 [rR 3 11 1] [] M = evR code [2] (some (.inl (some (vI ans)), M1)) M) : X 216 0 [rR 3 11 1, vJ] [] M = some (.inl (some (vI (if code = 0 then cn 0 else cn 1))), if code = 0 then M1 else xc M) := by
  rcases hc with rfl | rfl
  · have h2 : X 170 0 [rR 3 11 1] [] M = some (.inl (some (vI ans)), M1) := h
    refine y_cal yk216 2 4 rfl h2 ?_
    exact y_ret yk216 4 rfl rfl
  · have h2 : X 170 0 [rR 3 11 1] [] M = some (.inr 2, xc M) := h
    refine y_hnd yk216 2 4 9 1 rfl h2 (by decide +kernel) (by decide +kernel) rfl ?_
    exact y_ret yk216 2 rfl rfl
theorem no_217 (hc : code = 0 ∨ code = 3) (h : X 169 0 [rR 3 11 1, vI a, vI b] [] M = evR code [0, 1, 2] (some (.inl (some (vI ans)), M1)) M) : X 217 0 [rR 3 11 1, vI a, vI b, vJ] [] M = some (.inl (some (vI (if code = 0 then cn 0 else cn 1))), if code = 0 then M1 else xc M) := by
  rcases hc with rfl | rfl
  · have h2 : X 169 0 [rR 3 11 1, vI a, vI b] [] M = some (.inl (some (vI ans)), M1) := h
    refine y_cal yk217 4 6 rfl h2 ?_
    exact y_ret yk217 4 rfl rfl
  · have h2 : X 169 0 [rR 3 11 1, vI a, vI b] [] M = some (.inr 2, xc M) := h
    refine y_hnd yk217 4 6 11 3 rfl h2 (by decide +kernel) (by decide +kernel) rfl ?_
    exact y_ret yk217 2 rfl rfl
theorem no_218 (hc : code = 0 ∨ code = 2) (h : X 168 0 [rR 3 11 1, vI a] [] M = evR code [0, 2] (some (.inl (some (vI ans)), M1)) M) : X 218 0 [rR 3 11 1, vI a, vJ] [] M = some (.inl (some (vI (if code = 0 then cn 0 else cn 1))), if code = 0 then M1 else xc M) := by
  rcases hc with rfl | rfl
  · have h2 : X 168 0 [rR 3 11 1, vI a] [] M = some (.inl (some (vI ans)), M1) := h
    refine y_cal yk218 3 5 rfl h2 ?_
    exact y_ret yk218 4 rfl rfl
  · have h2 : X 168 0 [rR 3 11 1, vI a] [] M = some (.inr 2, xc M) := h
    refine y_hnd yk218 3 5 10 2 rfl h2 (by decide +kernel) (by decide +kernel) rfl ?_
    exact y_ret yk218 2 rfl rfl
theorem no_219 (hc : code = 0 ∨ code = 3) (h : X 155 0 [rR 3 11 1, vI a, vI b, vI c, vI (cn 0), vI d] [] M = evR code [0, 1, 2] (some (.inl (some (vI ans)), M1)) M) : X 219 0 [rR 3 11 1, vI a, vI b, vI c, vI d, vJ] [] M = some (.inl (some (vI (if code = 0 then cn 0 else cn 1))), if code = 0 then M1 else xc M) := by
  rcases hc with rfl | rfl
  · have h2 : X 155 0 [rR 3 11 1, vI a, vI b, vI c, vI (cn 0), vI d] [] M = some (.inl (some (vI ans)), M1) := h
    refine y_cal yk219 7 10 rfl h2 ?_
    exact y_ret yk219 4 rfl rfl
  · have h2 : X 155 0 [rR 3 11 1, vI a, vI b, vI c, vI (cn 0), vI d] [] M = some (.inr 2, xc M) := h
    refine y_hnd yk219 7 10 16 5 rfl h2 (by decide +kernel) (by decide +kernel) rfl ?_
    exact y_ret yk219 2 rfl rfl
theorem no_220 (hc : code = 0 ∨ code = 3) (h : X 152 0 [rR 3 11 1, vI a, vI b, vI c] [] M = evR code [0, 1, 2] (some (.inl (some (vI ans)), M1)) M) : X 220 0 [rR 3 11 1, vI a, vI b, vI c, vJ] [] M = some (.inl (some (vI (if code = 0 then cn 0 else cn 1))), if code = 0 then M1 else xc M) := by
  rcases hc with rfl | rfl
  · have h2 : X 152 0 [rR 3 11 1, vI a, vI b, vI c] [] M = some (.inl (some (vI ans)), M1) := h
    refine y_cal yk220 5 7 rfl h2 ?_
    exact y_ret yk220 4 rfl rfl
  · have h2 : X 152 0 [rR 3 11 1, vI a, vI b, vI c] [] M = some (.inr 2, xc M) := h
    refine y_hnd yk220 5 7 13 4 rfl h2 (by decide +kernel) (by decide +kernel) rfl ?_
    exact y_ret yk220 2 rfl rfl
theorem no_221 (hc : code = 0 ∨ code = 3) (h : X 153 0 [rR 3 11 1, vI a, vI b, vI c, vI d, vI (cn 1)] [] M = evR code [0, 1, 2] (some (.inl (some (vI ans)), M1)) M) : X 221 0 [rR 3 11 1, vI a, vI b, vI c, vI d, vJ] [] M = some (.inl (some (vI (if code = 0 then cn 0 else cn 1))), if code = 0 then M1 else xc M) := by
  rcases hc with rfl | rfl
  · have h2 : X 153 0 [rR 3 11 1, vI a, vI b, vI c, vI d, vI (cn 1)] [] M = some (.inl (some (vI ans)), M1) := h
    refine y_cal yk221 7 10 rfl h2 ?_
    exact y_ret yk221 4 rfl rfl
  · have h2 : X 153 0 [rR 3 11 1, vI a, vI b, vI c, vI d, vI (cn 1)] [] M = some (.inr 2, xc M) := h
    refine y_hnd yk221 7 10 16 5 rfl h2 (by decide +kernel) (by decide +kernel) rfl ?_
    exact y_ret yk221 2 rfl rfl
theorem no_222 (hc : code = 0 ∨ code = 3) (h : X 154 0 [rR 3 11 1, vI a, vI b, vI c, vI d, vI (cn 2)] [] M = evR code [0, 1, 2] (some (.inl (some (vI ans)), M1)) M) : X 222 0 [rR 3 11 1, vI a, vI b, vI c, vI d, vJ] [] M = some (.inl (some (vI (if code = 0 then cn 0 else cn 1))), if code = 0 then M1 else xc M) := by
  rcases hc with rfl | rfl
  · have h2 : X 154 0 [rR 3 11 1, vI a, vI b, vI c, vI d, vI (cn 2)] [] M = some (.inl (some (vI ans)), M1) := h
    refine y_cal yk222 7 10 rfl h2 ?_
    exact y_ret yk222 4 rfl rfl
  · have h2 : X 154 0 [rR 3 11 1, vI a, vI b, vI c, vI d, vI (cn 2)] [] M = some (.inr 2, xc M) := h
    refine y_hnd yk222 7 10 16 5 rfl h2 (by decide +kernel) (by decide +kernel) rfl ?_
    exact y_ret yk222 2 rfl rfl
theorem no_223 (hc : code = 0 ∨ code = 2) (h : X 163 0 [rR 3 11 1, vI a] [] M = evR code [0, 2] (some (.inl (some (vI ans)), M1)) M) : X 223 0 [rR 3 11 1, vI a, vJ] [] M = some (.inl (some (vI (if code = 0 then cn 0 else cn 1))), if code = 0 then M1 else xc M) := by
  rcases hc with rfl | rfl
  · have h2 : X 163 0 [rR 3 11 1, vI a] [] M = some (.inl (some (vI ans)), M1) := h
    refine y_cal yk223 3 5 rfl h2 ?_
    exact y_ret yk223 4 rfl rfl
  · have h2 : X 163 0 [rR 3 11 1, vI a] [] M = some (.inr 2, xc M) := h
    refine y_hnd yk223 3 5 10 2 rfl h2 (by decide +kernel) (by decide +kernel) rfl ?_
    exact y_ret yk223 2 rfl rfl
theorem no_224 (hc : code = 0 ∨ code = 1) (h : X 163 0 [rR 3 11 1, vI a] [] M = evR code [0, 2] (some (.inl (some (vI ans)), M1)) M) : X 224 0 [rR 3 11 1, vI a, vJ] [] M = some (.inl (some (vI (if code = 0 then cn 0 else cn 1))), if code = 0 then M1 else xc M) := by
  rcases hc with rfl | rfl
  · have h2 : X 163 0 [rR 3 11 1, vI a] [] M = some (.inl (some (vI ans)), M1) := h
    refine y_cal yk224 3 5 rfl h2 ?_
    exact y_ret yk224 4 rfl rfl
  · have h2 : X 163 0 [rR 3 11 1, vI a] [] M = some (.inr 0, xc M) := h
    refine y_hnd yk224 3 5 10 2 rfl h2 (by decide +kernel) (by decide +kernel) rfl ?_
    exact y_ret yk224 2 rfl rfl
theorem no_225 (hc : code = 0 ∨ code = 1) (h : X 185 0 [rR 3 11 1, vI a, vI (cn 0), vJ] [] M = evR code [0, 1] (some (.inl (some (vI ans)), M1)) M) : X 225 0 [rR 3 11 1, vI a, vJ] [] M = some (.inl (some (vI (if code = 0 then cn 0 else cn 1))), if code = 0 then M1 else xc M) := by
  rcases hc with rfl | rfl
  · have h2 : X 185 0 [rR 3 11 1, vI a, vI (cn 0), vJ] [] M = some (.inl (some (vI ans)), M1) := h
    refine y_cal yk225 4 6 rfl h2 ?_
    exact y_ret yk225 4 rfl rfl
  · have h2 : X 185 0 [rR 3 11 1, vI a, vI (cn 0), vJ] [] M = some (.inr 0, xc M) := h
    refine y_hnd yk225 4 6 11 2 rfl h2 (by decide +kernel) (by decide +kernel) rfl ?_
    exact y_ret yk225 2 rfl rfl
theorem no_226 (hc : code = 0 ∨ code = 3) (h : X 164 0 [rR 3 11 1, vI a, vI b, vI c] [] M = evR code [0, 1, 2] (some (.inl (some (vI ans)), M1)) M) : X 226 0 [rR 3 11 1, vI a, vI b, vI c, vJ] [] M = some (.inl (some (vI (if code = 0 then cn 0 else cn 1))), if code = 0 then M1 else xc M) := by
  rcases hc with rfl | rfl
  · have h2 : X 164 0 [rR 3 11 1, vI a, vI b, vI c] [] M = some (.inl (some (vI ans)), M1) := h
    refine y_cal yk226 5 7 rfl h2 ?_
    exact y_ret yk226 4 rfl rfl
  · have h2 : X 164 0 [rR 3 11 1, vI a, vI b, vI c] [] M = some (.inr 2, xc M) := h
    refine y_hnd yk226 5 7 13 4 rfl h2 (by decide +kernel) (by decide +kernel) rfl ?_
    exact y_ret yk226 2 rfl rfl
end Tries
