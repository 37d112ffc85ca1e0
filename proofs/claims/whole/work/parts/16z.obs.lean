def un9 {a b c d e g i j k γ : Type} (f : a → b → c → d → e → g → i → j → k → γ) : a × b × c × d × e × g × i × j × k → γ := fun s => f s.1 s.2.1 s.2.2.1 s.2.2.2.1 s.2.2.2.2.1 s.2.2.2.2.2.1 s.2.2.2.2.2.2.1 s.2.2.2.2.2.2.2.1 s.2.2.2.2.2.2.2.2
theorem ob8 {a b c d e g i j β : Type} {x : Option (a × b × c × d × e × g × i × j)} {K : a → b → c → d → e → g → i → j → Option β} {o : β} (hf : x.bind (un8 K) = some o) : ∃ u v w z t r q y, x = some (u, v, w, z, t, r, q, y) ∧ K u v w z t r q y = some o := by
  obtain ⟨s, h1, h2⟩ := ob_some hf
  exact ⟨s.1, s.2.1, s.2.2.1, s.2.2.2.1, s.2.2.2.2.1, s.2.2.2.2.2.1, s.2.2.2.2.2.2.1, s.2.2.2.2.2.2.2, h1, h2⟩
theorem ob9 {a b c d e g i j k β : Type} {x : Option (a × b × c × d × e × g × i × j × k)} {K : a → b → c → d → e → g → i → j → k → Option β} {o : β} (hf : x.bind (un9 K) = some o) : ∃ u v w z t r q y l, x = some (u, v, w, z, t, r, q, y, l) ∧ K u v w z t r q y l = some o := by
  obtain ⟨s, h1, h2⟩ := ob_some hf
  exact ⟨s.1, s.2.1, s.2.2.1, s.2.2.2.1, s.2.2.2.2.1, s.2.2.2.2.2.1, s.2.2.2.2.2.2.1, s.2.2.2.2.2.2.2.1, s.2.2.2.2.2.2.2.2, h1, h2⟩
theorem un8_e {a b c d e g i j γ : Type} {f : a → b → c → d → e → g → i → j → γ} {u : a} {v : b} {w : c} {z : d} {t : e} {s : g} {q : i} {y : j} {r : γ} (h : un8 f (u, v, w, z, t, s, q, y) = r) : f u v w z t s q y = r := h
