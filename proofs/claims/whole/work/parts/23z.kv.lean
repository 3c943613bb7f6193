/-! opaque calls -/
def KV {α : Type} (p : Option Value → Option α) (y : Nat) (A : zS) (h : zH) (v : α) : Prop := z_K p y A h = some (v, h)
theorem k_P {α : Type} {p : Option Value → Option α} {y : Nat} {A : zS} {h : zH} {v : α} {Q : α → zH → Prop} (k : KV p y A h v) (q : Q v h) : KK p y A h Q := ⟨v, h, k, q⟩
theorem kv_of {α : Type} {p : Option Value → Option α} {y : Nat} {A : zS} {h : zH} {v : α} (k : KK p y A h (fun r h' => r = v ∧ h' = h)) : KV p y A h v := by
  obtain ⟨r, h2, a, rfl, rfl⟩ := k
  exact a
theorem z_rok_S {q : Nat} {A : zS} {h : zH} (hq : 3 ≤ q ∧ q < 11) : z_rok 20 h (.retAddr q :: A) = true := by
  show (Nat.beq 20 0 || (Nat.beq 20 20 && (Nat.ble 3 q && Nat.blt q 11))) = true
  rw [Nat.ble_eq_true_of_le hq.1, show Nat.blt q 11 = true from Nat.ble_eq_true_of_le hq.2]
  rfl
theorem z_nmG {α : Type} {p : Option Value → Option α} {y pc : Nat} {L : zL} {S : zS} {g w : zG} {Q : α → zG → Prop} (e : g = w) (k : MG p y pc L S g Q) : MG p y pc L S w Q := e ▸ k
