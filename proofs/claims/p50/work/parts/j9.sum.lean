/-! the walk of sum: a number from what is answered -/
section SumW
variable {M : Mem}
variable (pos : Nat → Nat → Int32) (csh : Nat → Int64) (bs las : Nat → Nat → Int32) (ens ins sts rss prs : Nat → Int32) (mes : Nat → Nat → Int64)
def k31 : Int64 := cl 31
def sgAp (i : Nat) (s : Int64) : Nat → Int64
  | 0 => s
  | c + 1 => k31 * sgAp i s c + (pos i c).toInt64
def sgA : Nat → Int64
  | 0 => cl 17
  | i + 1 => sgAp pos i (k31 * sgA i + csh i) 4
def sgB (s : Int64) : Nat → Int64
  | 0 => s
  | b + 1 => k31 * (k31 * (k31 * (k31 * (k31 * (k31 * sgB s b + (bs b 1).toInt64) + (bs b 0).toInt64) + (las b 0).toInt64) + (las b 1).toInt64) + (ens b).toInt64) + (ins b).toInt64
def sgOrd (s : Int64) : Nat → Int64
  | 0 => s
  | v + 1 => k31 * sgOrd s v + (sts v).toInt64 + (if sts v = 0 then cn 0 else cn 3 * rss v + cn 7 * prs v).toInt64
def sgDp (m : Nat) (s : Int64) : Nat → Int64
  | 0 => s
  | w + 1 => k31 * sgDp m s w + mes m w
def sgD (s : Int64) : Nat → Int64
  | 0 => s
  | m + 1 => sgDp mes m (sgD s m) 7
def sAll (tr sk : Int32) : Int64 := k31 * (k31 * sgD mes (sgOrd sts rss prs (sgB bs las ens ins (sgA pos csh 9) 6) 40) 4 + tr.toInt64) + sk.toInt64
variable {pos csh bs las ens ins sts rss prs mes}
set_option maxRecDepth 100000 in
theorem su_1p {i : Nat} {s : Int64} (hp : ∀ c : Nat, c < 4 → X 186 0 [rR 3 11 1, vI (cn i), vI (cn c)] [] M = some (.inl (some (vI (pos i c))), M)) : ∀ (d c : Nat), c + d = 4 → X 233 27 [rR 3 11 1, vL (sgAp pos i s c), vJ, vI (cn i), vI (cn c)] [] M = X 233 54 [rR 3 11 1, vL (sgAp pos i s 4), vJ, vI (cn i), vI (cn 4)] [] M := by
  intro d
  induction d with
  | zero =>
    intro c h1
    have e4 : c = 4 := by omega
    subst e4
    exact y_icT yk233 2 30 54 rfl rfl rfl (by decide) rfl
  | succ d ih =>
    intro c h1
    refine y_icF yk233 2 30 33 rfl rfl rfl (by decide) (show cmpI .ge (cn c) (cn (4 : Nat)) = false by rw [cn_ge (n := 4) (by decide) (by omega)]; exact decide_eq_false (by omega)) ?_
    refine y_cal yk233 7 45 rfl (hp c (by omega)) ?_
    refine y_go yk233 5 27 rfl ?_
    have e := ih (c + 1) (by omega)
    rw [← cnsucc] at e
    exact e
set_option maxRecDepth 100000 in
theorem su_1 (hp : ∀ i c : Nat, i < 9 → c < 4 → X 186 0 [rR 3 11 1, vI (cn i), vI (cn c)] [] M = some (.inl (some (vI (pos i c))), M)) (hc : ∀ i : Nat, i < 9 → X 187 0 [rR 3 11 1, vI (cn i)] [] M = some (.inl (some (vL (csh i))), M)) : ∀ (d i : Nat), i + d = 9 → ∀ x : AV, ∃ x' : AV, X 233 6 [rR 3 11 1, vL (sgA pos csh i), vJ, vI (cn i), x] [] M = X 233 62 [rR 3 11 1, vL (sgA pos csh 9), vJ, vI (cn 0), x'] [] M := by
  intro d
  induction d with
  | zero =>
    intro i h1 x
    have e4 : i = 9 := by omega
    subst e4
    refine ⟨x, ?_⟩
    refine y_icT yk233 2 9 60 rfl rfl rfl (by decide) ?_
    exact y_go yk233 2 62 rfl rfl
  | succ d ih =>
    intro i h1 x
    obtain ⟨x', e⟩ := ih (i + 1) (by omega) (vI (cn 4))
    rw [← cnsucc] at e
    refine ⟨x', ?_⟩
    refine y_icF yk233 2 9 12 rfl rfl rfl (by decide) (show cmpI .ge (cn i) (cn (9 : Nat)) = false by rw [cn_ge (n := 9) (by decide) (by omega)]; exact decide_eq_false (by omega)) ?_
    refine y_cal yk233 6 22 rfl (hc i (by omega)) ?_
    refine y_go yk233 4 27 rfl ?_
    refine (su_1p (s := k31 * sgA pos csh i + csh i) (fun c hc => hp i c (by omega) hc) 4 0 rfl).trans ?_
    refine y_go yk233 2 6 rfl ?_
    exact e
set_option maxRecDepth 100000 in
theorem su_2 {s : Int64} (hb : ∀ b : Nat, b < 6 → X 176 0 [rR 3 11 1, vI (cn b), vI (cn 1)] [] M = some (.inl (some (vI (bs b 1))), M)) (hb0 : ∀ b : Nat, b < 6 → X 176 0 [rR 3 11 1, vI (cn b), vI (cn 0)] [] M = some (.inl (some (vI (bs b 0))), M)) (hl0 : ∀ b : Nat, b < 6 → X 181 0 [rR 3 11 1, vI (cn b), vI (cn 0), vJ] [] M = some (.inl (some (vI (las b 0))), M)) (hl1 : ∀ b : Nat, b < 6 → X 181 0 [rR 3 11 1, vI (cn b), vI (cn 1), vJ] [] M = some (.inl (some (vI (las b 1))), M)) (he : ∀ b : Nat, b < 6 → X 182 0 [rR 3 11 1, vI (cn b), vJ] [] M = some (.inl (some (vI (ens b))), M)) (hi : ∀ b : Nat, b < 6 → X 183 0 [rR 3 11 1, vI (cn b), vI (cn 1), vJ, vJ] [] M = some (.inl (some (vI (ins b))), M)) {x : AV} : ∀ (d b : Nat), b + d = 6 → X 233 62 [rR 3 11 1, vL (sgB bs las ens ins s b), vJ, vI (cn b), x] [] M = X 233 151 [rR 3 11 1, vL (sgB bs las ens ins s 6), vJ, vI (cn 0), x] [] M := by
  intro d
  induction d with
  | zero =>
    intro b h1
    have e4 : b = 6 := by omega
    subst e4
    refine y_icT yk233 2 65 149 rfl rfl rfl (by decide) ?_
    exact y_go yk233 2 151 rfl rfl
  | succ d ih =>
    intro b h1
    refine y_icF yk233 2 65 68 rfl rfl rfl (by decide) (show cmpI .ge (cn b) (cn (6 : Nat)) = false by rw [cn_ge (n := 6) (by decide) (by omega)]; exact decide_eq_false (by omega)) ?_
    refine y_cal yk233 9 85 rfl (hb b (by omega)) ?_
    refine y_cal yk233 7 94 rfl (hb0 b (by omega)) ?_
    refine y_cal yk233 7 103 rfl (hl0 b (by omega)) ?_
    refine y_cal yk233 12 123 rfl (hl1 b (by omega)) ?_
    refine y_cal yk233 6 131 rfl (he b (by omega)) ?_
    refine y_cal yk233 7 140 rfl (hi b (by omega)) ?_
    refine y_go yk233 5 62 rfl ?_
    have e := ih (b + 1) (by omega)
    rw [← cnsucc] at e
    exact e
set_option maxRecDepth 100000 in
theorem su_3 {s : Int64} (hs : ∀ v : Nat, v < 40 → X 178 0 [rR 3 11 1, vI (cn v), vJ] [] M = some (.inl (some (vI (sts v))), M)) (hr : ∀ v : Nat, v < 40 → ¬ sts v = 0 → X 179 0 [rR 3 11 1, vI (cn v), vJ] [] M = some (.inl (some (vI (rss v))), M)) (hp : ∀ v : Nat, v < 40 → ¬ sts v = 0 → X 180 0 [rR 3 11 1, vI (cn v), vJ] [] M = some (.inl (some (vI (prs v))), M)) : ∀ (d v : Nat), v + d = 40 → ∀ x : AV, ∃ x' : AV, X 233 151 [rR 3 11 1, vL (sgOrd sts rss prs s v), vJ, vI (cn v), x] [] M = X 233 209 [rR 3 11 1, vL (sgOrd sts rss prs s 40), vJ, vI (cn 0), x'] [] M := by
  intro d
  induction d with
  | zero =>
    intro v h1 x
    have e4 : v = 40 := by omega
    subst e4
    refine ⟨x, ?_⟩
    refine y_icT yk233 2 154 207 rfl rfl rfl (by decide) ?_
    exact y_go yk233 2 209 rfl rfl
  | succ d ih =>
    intro v h1 x
    obtain ⟨x', e⟩ := ih (v + 1) (by omega) (vI (sts v))
    have es : sgOrd sts rss prs s (v + 1) = k31 * sgOrd sts rss prs s v + (sts v).toInt64 + (if sts v = 0 then cn 0 else cn 3 * rss v + cn 7 * prs v).toInt64 := rfl
    rw [← cnsucc, es] at e
    refine ⟨x', ?_⟩
    refine y_icF yk233 2 154 157 rfl rfl rfl (by decide) (show cmpI .ge (cn v) (cn (40 : Nat)) = false by rw [cn_ge (n := 40) (by decide) (by omega)]; exact decide_eq_false (by omega)) ?_
    refine y_cal yk233 3 162 rfl (hs v (by omega)) ?_
    by_cases hz : sts v = 0
    · rw [if_pos hz] at e
      refine y_ifF yk233 8 175 178 rfl rfl rfl (by decide) (by rw [hz]; decide) ?_
      refine y_go yk233 7 151 rfl ?_
      exact e
    · rw [if_neg hz] at e
      refine y_ifT yk233 8 175 182 rfl rfl rfl (icm_ne hz) ?_
      refine y_cal yk233 4 188 rfl (hr v (by omega) hz) ?_
      refine y_cal yk233 5 196 rfl (hp v (by omega) hz) ?_
      refine y_go yk233 7 151 rfl ?_
      exact e
set_option maxRecDepth 100000 in
theorem su_4p {m : Nat} {s : Int64} (hp : ∀ w : Nat, w < 7 → X 188 0 [rR 3 11 1, vI (cn m), vI (cn w)] [] M = some (.inl (some (vL (mes m w))), M)) : ∀ (d w : Nat), w + d = 7 → X 233 217 [rR 3 11 1, vL (sgDp mes m s w), vJ, vI (cn m), vI (cn w)] [] M = X 233 244 [rR 3 11 1, vL (sgDp mes m s 7), vJ, vI (cn m), vI (cn 7)] [] M := by
  intro d
  induction d with
  | zero =>
    intro w h1
    have e4 : w = 7 := by omega
    subst e4
    exact y_icT yk233 2 221 244 rfl rfl rfl (by decide) rfl
  | succ d ih =>
    intro w h1
    refine y_icF yk233 2 221 224 rfl rfl rfl (by decide) (show cmpI .ge (cn w) (cn (7 : Nat)) = false by rw [cn_ge (n := 7) (by decide) (by omega)]; exact decide_eq_false (by omega)) ?_
    refine y_cal yk233 7 236 rfl (hp w (by omega)) ?_
    refine y_go yk233 4 217 rfl ?_
    have e := ih (w + 1) (by omega)
    rw [← cnsucc] at e
    exact e
set_option maxRecDepth 100000 in
theorem su_4 {s : Int64} (hp : ∀ m w : Nat, m < 4 → w < 7 → X 188 0 [rR 3 11 1, vI (cn m), vI (cn w)] [] M = some (.inl (some (vL (mes m w))), M)) : ∀ (d m : Nat), m + d = 4 → ∀ x : AV, ∃ x' : AV, X 233 209 [rR 3 11 1, vL (sgD mes s m), vJ, vI (cn m), x] [] M = X 233 250 [rR 3 11 1, vL (sgD mes s 4), vJ, vI (cn 4), x'] [] M := by
  intro d
  induction d with
  | zero =>
    intro m h1 x
    have e4 : m = 4 := by omega
    subst e4
    exact ⟨x, y_icT yk233 2 211 250 rfl rfl rfl (by decide) rfl⟩
  | succ d ih =>
    intro m h1 x
    obtain ⟨x', e⟩ := ih (m + 1) (by omega) (vI (cn 7))
    rw [← cnsucc] at e
    refine ⟨x', ?_⟩
    refine y_icF yk233 2 211 214 rfl rfl rfl (by decide) (show cmpI .ge (cn m) (cn (4 : Nat)) = false by rw [cn_ge (n := 4) (by decide) (by omega)]; exact decide_eq_false (by omega)) ?_
    refine y_go yk233 2 217 rfl ?_
    refine (su_4p (s := sgD mes s m) (fun w hw => hp m w (by omega) hw) 7 0 rfl).trans ?_
    refine y_go yk233 2 209 rfl ?_
    exact e
set_option maxRecDepth 100000 in
theorem su_all {tr sk : Int32} (hp : ∀ i c : Nat, i < 9 → c < 4 → X 186 0 [rR 3 11 1, vI (cn i), vI (cn c)] [] M = some (.inl (some (vI (pos i c))), M)) (hc : ∀ i : Nat, i < 9 → X 187 0 [rR 3 11 1, vI (cn i)] [] M = some (.inl (some (vL (csh i))), M)) (hb : ∀ b : Nat, b < 6 → X 176 0 [rR 3 11 1, vI (cn b), vI (cn 1)] [] M = some (.inl (some (vI (bs b 1))), M)) (hb0 : ∀ b : Nat, b < 6 → X 176 0 [rR 3 11 1, vI (cn b), vI (cn 0)] [] M = some (.inl (some (vI (bs b 0))), M)) (hl0 : ∀ b : Nat, b < 6 → X 181 0 [rR 3 11 1, vI (cn b), vI (cn 0), vJ] [] M = some (.inl (some (vI (las b 0))), M)) (hl1 : ∀ b : Nat, b < 6 → X 181 0 [rR 3 11 1, vI (cn b), vI (cn 1), vJ] [] M = some (.inl (some (vI (las b 1))), M)) (he : ∀ b : Nat, b < 6 → X 182 0 [rR 3 11 1, vI (cn b), vJ] [] M = some (.inl (some (vI (ens b))), M)) (hi : ∀ b : Nat, b < 6 → X 183 0 [rR 3 11 1, vI (cn b), vI (cn 1), vJ, vJ] [] M = some (.inl (some (vI (ins b))), M)) (hs : ∀ v : Nat, v < 40 → X 178 0 [rR 3 11 1, vI (cn v), vJ] [] M = some (.inl (some (vI (sts v))), M)) (hr : ∀ v : Nat, v < 40 → ¬ sts v = 0 → X 179 0 [rR 3 11 1, vI (cn v), vJ] [] M = some (.inl (some (vI (rss v))), M)) (hpr : ∀ v : Nat, v < 40 → ¬ sts v = 0 → X 180 0 [rR 3 11 1, vI (cn v), vJ] [] M = some (.inl (some (vI (prs v))), M)) (hm : ∀ m w : Nat, m < 4 → w < 7 → X 188 0 [rR 3 11 1, vI (cn m), vI (cn w)] [] M = some (.inl (some (vL (mes m w))), M)) (ht : X 184 0 [rR 3 11 1] [] M = some (.inl (some (vI tr)), M)) (hk : X 189 0 [rR 3 11 1] [] M = some (.inl (some (vI sk)), M)) : X 233 0 [rR 3 11 1, vJ, vJ, vJ, vJ] [] M = some (.inl (some (vL (sAll pos csh bs las ens ins sts rss prs mes tr sk))), M) := by
  refine y_go yk233 4 6 rfl ?_
  obtain ⟨x1, e1⟩ := su_1 hp hc 9 0 rfl vJ
  refine e1.trans ?_
  refine (su_2 (s := sgA pos csh 9) hb hb0 hl0 hl1 he hi 6 0 rfl).trans ?_
  obtain ⟨x2, e2⟩ := su_3 (s := sgB bs las ens ins (sgA pos csh 9) 6) hs hr hpr 40 0 rfl x1
  refine e2.trans ?_
  obtain ⟨x3, e3⟩ := su_4 (s := sgOrd sts rss prs (sgB bs las ens ins (sgA pos csh 9) 6) 40) hm 4 0 rfl x2
  refine e3.trans ?_
  refine y_cal yk233 6 262 rfl ht ?_
  refine y_cal yk233 5 269 rfl hk ?_
  exact y_ret yk233 3 rfl rfl
end SumW
