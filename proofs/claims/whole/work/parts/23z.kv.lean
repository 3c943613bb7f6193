/-! opaque calls -/
def KV {α : Type} (p : Option Value → Option α) (y : Nat) (A : zS) (h : zH) (v : α) : Prop := z_K p y A h = some (v, h)
theorem k_P {α : Type} {p : Option Value → Option α} {y : Nat} {A : zS} {h : zH} {v : α} {Q : α → zH → Prop} (k : KV p y A h v) (q : Q v h) : KK p y A h Q := ⟨v, h, k, q⟩
theorem kv_of {α : Type} {p : Option Value → Option α} {y : Nat} {A : zS} {h : zH} {v : α} (k : KK p y A h (fun r h' => r = v ∧ h' = h)) : KV p y A h v := by
  obtain ⟨r, h2, a, rfl, rfl⟩ := k
  exact a
