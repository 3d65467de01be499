/-! the protections of two, in the reference -/
theorem tst_kq {q : PM} {K : Nat → Bool} {o a : Nat} : tst (kq q K) o a = tst q o a := by
  unfold tst
  rw [kq_k (by decide)]
theorem guards2 {q : PM} {u o au ao : Nat} (hu : u < 44) (ho : o < 44) (h1 : au < 8) (h2 : ao < 8) (e1 : q.1 13 15 u = cn au) (e2 : q.1 13 15 o = cn ao) (hb : ∀ s, s < 44 → b01 (q.1 15 3 s)) (hacc : ∀ s, s < 44 → q.1 15 3 s = cn 1 → ∃ c : Nat, c < 8 ∧ q.1 13 15 s = cn c) {K : Nat → Bool} (hK : ∀ c, K c = ((decide (c = au) && tst q u au) || (decide (c = ao) && tst q o ao))) : g12_guards q (cn u) ∧ g12_guards (v12_guards q (cn u)) (cn o) ∧ v12_guards (v12_guards q (cn u)) (cn o) = kq q K := by
  obtain ⟨g1, k1⟩ := guardQ_e hu h1 e1 hb hacc
  rw [k1]
  obtain ⟨g2, k2⟩ := guardQ_e (q := kq q fun c => decide (c = au) && tst q u au) ho h2 (by rw [kq_k (by decide)]; exact e2) (fun s hs => by
    rw [kq_3]
    split
    · exact b0
    · exact hb s hs) (fun s hs h => by
    rw [kq_3] at h
    rw [kq_k (by decide)]
    split at h
    · exact absurd h (by decide)
    · exact hacc s hs h)
  refine ⟨g1, g2, ?_⟩
  rw [k2, kq_kq, tst_kq]
  exact congrArg (kq q) (funext fun c => (hK c).symm)
