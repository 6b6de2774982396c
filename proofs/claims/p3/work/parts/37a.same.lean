-- DRAFT (untried): the class's net and the reference's say the same: for p3, p4
def LK (σ : zSt) : Prop := σ 2 0 = σ 32 0 ∧ σ 2 1 = σ 32 1 ∧ (∀ a b, a < 12 → b < 12 → zIn (σ 7 a) (nI b) = zLk σ (nI a) (nI b)) ∧ ∀ a, a < 12 → σ 6 a = σ 34 a
theorem LK.of {σ τ : zSt} (h : LK σ) (e2 : τ 2 = σ 2) (e0 : τ 32 0 = σ 32 0) (e1 : τ 32 1 = σ 32 1) (e7 : τ 7 = σ 7) (e33 : τ 33 = σ 33) (e6 : τ 6 = σ 6) (e34 : τ 34 = σ 34) : LK τ := by
  obtain ⟨h1, h2, h3, h4⟩ := h
  refine ⟨by rw [e2, e0]; exact h1, by rw [e2, e1]; exact h2, fun a b ha hb => ?_, fun a ha => by rw [e6, e34]; exact h4 a ha⟩
  rw [e7]
  unfold zLk
  rw [e33]
  exact h3 a b ha hb
theorem LK.c {σ τ : zSt} (h : LK σ) (hF : zFr FX σ τ) : LK τ := h.of (hF 2 (by decide)) (by rw [hF 32 (by decide)]) (by rw [hF 32 (by decide)]) (hF 7 (by decide)) (hF 33 (by decide)) (hF 6 (by decide)) (hF 34 (by decide))
theorem LK.m {σ τ : zSt} (h : LK σ) (hF : MF FMo JMo σ τ) : LK τ := h.of (hF.at (by decide)) (hF.2 0 (by decide)) (hF.2 1 (by decide)) (hF.at (by decide)) (hF.at (by decide)) (hF.at (by decide)) (hF.at (by decide))
