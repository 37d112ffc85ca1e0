-- what an object holds: ints, int arrays, long arrays, grids, references that change; by the fields' places
abbrev OV : Type := (Nat → Int32) × (Nat → Nat → Int32) × (Nat → Nat → Int64) × (Nat → Nat → Nat → Int32) × (Nat → Nat)
def iv (x : OV) (k : Nat) : Int32 := x.1 k
def ar (x : OV) (k : Nat) : Nat → Int32 := x.2.1 k
def al (x : OV) (k : Nat) : Nat → Int64 := x.2.2.1 k
def gr (x : OV) (k j : Nat) : Nat → Int32 := x.2.2.2.1 k j
def nv (x : OV) (k : Nat) : Nat := x.2.2.2.2 k
def sI (x : OV) (k : Nat) (v : Int32) : OV := (upd x.1 k v, x.2)
def sW (x : OV) (k : Nat) (f : Nat → Int32) : OV := (x.1, va_up x.2.1 k f, x.2.2)
def sA (x : OV) (k j : Nat) (v : Int32) : OV := sW x k (upd (ar x k) j v)
def sL (x : OV) (k j : Nat) (v : Int64) : OV := (x.1, x.2.1, va_up x.2.2.1 k (vp_updL (al x k) j v), x.2.2.2)
def sH (x : OV) (k j : Nat) (f : Nat → Int32) : OV := (x.1, x.2.1, x.2.2.1, va_up x.2.2.2.1 k (va_up (x.2.2.2.1 k) j f), x.2.2.2.2)
def sG (x : OV) (k j i : Nat) (v : Int32) : OV := sH x k j (upd (gr x k j) i v)
def sN (x : OV) (k a : Nat) : OV := (x.1, x.2.1, x.2.2.1, x.2.2.2.1, va_up x.2.2.2.2 k a)
-- the words of the functions: a name, a guard, a loop
def bnd {α β : Type} (e : α) (K : α → Option β) : Option β := K e
def gd {β : Type} (b : Bool) (K : Option β) : Option β := if b = true then K else none
def ix (i : Int32) (N : Nat) : Bool := decide (¬ (i < 0 ∨ N ≤ i.toNatClampNeg))
def b01 (x : Int32) : Bool := decide (x = 0 ∨ x = 1)
def lp {σ ρ : Type} (step : σ → Option (σ ⊕ ρ)) : Nat → σ → Option ρ
  | 0, _ => none
  | n + 1, s => match step s with
    | none => none
    | some (.inl s') => lp step n s'
    | some (.inr r) => some r
def un1 {a γ : Type} (f : a → γ) : a → γ := f
def un2 {a b γ : Type} (f : a → b → γ) : a × b → γ := fun s => f s.1 s.2
def un3 {a b c γ : Type} (f : a → b → c → γ) : a × b × c → γ := fun s => f s.1 s.2.1 s.2.2
def un4 {a b c d γ : Type} (f : a → b → c → d → γ) : a × b × c × d → γ := fun s => f s.1 s.2.1 s.2.2.1 s.2.2.2
def un5 {a b c d e γ : Type} (f : a → b → c → d → e → γ) : a × b × c × d × e → γ := fun s => f s.1 s.2.1 s.2.2.1 s.2.2.2.1 s.2.2.2.2
def un6 {a b c d e g γ : Type} (f : a → b → c → d → e → g → γ) : a × b × c × d × e × g → γ := fun s => f s.1 s.2.1 s.2.2.1 s.2.2.2.1 s.2.2.2.2.1 s.2.2.2.2.2
def un7 {a b c d e g i γ : Type} (f : a → b → c → d → e → g → i → γ) : a × b × c × d × e × g × i → γ := fun s => f s.1 s.2.1 s.2.2.1 s.2.2.2.1 s.2.2.2.2.1 s.2.2.2.2.2.1 s.2.2.2.2.2.2
def un8 {a b c d e g i j γ : Type} (f : a → b → c → d → e → g → i → j → γ) : a × b × c × d × e × g × i × j → γ := fun s => f s.1 s.2.1 s.2.2.1 s.2.2.2.1 s.2.2.2.2.1 s.2.2.2.2.2.1 s.2.2.2.2.2.2.1 s.2.2.2.2.2.2.2
theorem bnd_at {α β : Type} {e x : α} {K : α → Option β} {o : β} (h : x = e) (hf : bnd e K = some o) : K x = some o := by subst h; exact hf
theorem gd_some {β : Type} {b : Bool} {K : Option β} {o : β} (hf : gd b K = some o) : b = true ∧ K = some o := by
  unfold gd at hf
  split at hf
  · exact ⟨by assumption, hf⟩
  · cases hf
theorem gd_t {β : Type} {b : Bool} {K : Option β} (h : b = true) : gd b K = K := if_pos h
theorem ix_in {i : Int32} {N : Nat} (h : ix i N = true) : vp_in i N := by simpa [ix, vp_in] using h
theorem b01_or {x : Int32} (h : b01 x = true) : x = 0 ∨ x = 1 := by simpa [b01] using h
theorem b01_nar {x : Int32} (h : b01 x = true) : narrow .boolean (.int x) = .int x := by rcases b01_or h with rfl | rfl <;> decide
theorem b01_fit {x : Int32} (h : b01 x = true) : fits .boolean (.int x) = true := by rcases b01_or h with rfl | rfl <;> decide
theorem ite_t {α : Type} {c : Prop} [Decidable c] {a b o : α} (h : c) (hf : (if c then a else b) = o) : a = o := by rw [if_pos h] at hf; exact hf
theorem ite_f {α : Type} {c : Prop} [Decidable c] {a b o : α} (h : ¬ c) (hf : (if c then a else b) = o) : b = o := by rw [if_neg h] at hf; exact hf
theorem ob_some {α β : Type} {x : Option α} {K : α → Option β} {o : β} (hf : x.bind K = some o) : ∃ a, x = some a ∧ K a = some o := by
  cases x with
  | none => cases hf
  | some a => exact ⟨a, rfl, hf⟩
theorem ob1 {a β : Type} {x : Option a} {K : a → Option β} {o : β} (hf : x.bind (un1 K) = some o) : ∃ u, x = some u ∧ K u = some o := ob_some hf
theorem ob2 {a b β : Type} {x : Option (a × b)} {K : a → b → Option β} {o : β} (hf : x.bind (un2 K) = some o) : ∃ u v, x = some (u, v) ∧ K u v = some o := by
  obtain ⟨s, h1, h2⟩ := ob_some hf
  exact ⟨s.1, s.2, h1, h2⟩
theorem ob3 {a b c β : Type} {x : Option (a × b × c)} {K : a → b → c → Option β} {o : β} (hf : x.bind (un3 K) = some o) : ∃ u v w, x = some (u, v, w) ∧ K u v w = some o := by
  obtain ⟨s, h1, h2⟩ := ob_some hf
  exact ⟨s.1, s.2.1, s.2.2, h1, h2⟩
theorem ob4 {a b c d β : Type} {x : Option (a × b × c × d)} {K : a → b → c → d → Option β} {o : β} (hf : x.bind (un4 K) = some o) : ∃ u v w z, x = some (u, v, w, z) ∧ K u v w z = some o := by
  obtain ⟨s, h1, h2⟩ := ob_some hf
  exact ⟨s.1, s.2.1, s.2.2.1, s.2.2.2, h1, h2⟩
theorem ob5 {a b c d e β : Type} {x : Option (a × b × c × d × e)} {K : a → b → c → d → e → Option β} {o : β} (hf : x.bind (un5 K) = some o) : ∃ u v w z t, x = some (u, v, w, z, t) ∧ K u v w z t = some o := by
  obtain ⟨s, h1, h2⟩ := ob_some hf
  exact ⟨s.1, s.2.1, s.2.2.1, s.2.2.2.1, s.2.2.2.2, h1, h2⟩
theorem ob6 {a b c d e g β : Type} {x : Option (a × b × c × d × e × g)} {K : a → b → c → d → e → g → Option β} {o : β} (hf : x.bind (un6 K) = some o) : ∃ u v w z t r, x = some (u, v, w, z, t, r) ∧ K u v w z t r = some o := by
  obtain ⟨s, h1, h2⟩ := ob_some hf
  exact ⟨s.1, s.2.1, s.2.2.1, s.2.2.2.1, s.2.2.2.2.1, s.2.2.2.2.2, h1, h2⟩
theorem ob7 {a b c d e g i β : Type} {x : Option (a × b × c × d × e × g × i)} {K : a → b → c → d → e → g → i → Option β} {o : β} (hf : x.bind (un7 K) = some o) : ∃ u v w z t r q, x = some (u, v, w, z, t, r, q) ∧ K u v w z t r q = some o := by
  obtain ⟨s, h1, h2⟩ := ob_some hf
  exact ⟨s.1, s.2.1, s.2.2.1, s.2.2.2.1, s.2.2.2.2.1, s.2.2.2.2.2.1, s.2.2.2.2.2.2, h1, h2⟩
/-- the loop, for a walk: V at its head, E behind it -/
theorem lp_walk {σ ρ : Type} {step : σ → Option (σ ⊕ ρ)} (V : σ → Prop) (E : ρ → Prop) (hb : ∀ s o, step s = some o → (∀ s', o = .inl s' → V s') → (∀ r, o = .inr r → E r) → V s) : ∀ n s r, lp step n s = some r → E r → V s := by
  intro n
  induction n with
  | zero => intro s r h; cases h
  | succ n ih =>
    intro s r h hE
    unfold lp at h
    cases hs : step s with
    | none => rw [hs] at h; cases h
    | some o =>
      rw [hs] at h
      refine hb s o hs (fun s' e => ?_) (fun r' e => ?_)
      · subst e
        exact ih s' r h hE
      · subst e
        cases h
        exact hE
/-- a loop that counts: its state F k when it has gone round k times -/
theorem lp_for {σ ρ : Type} {step : σ → Option (σ ⊕ ρ)} (F : Nat → σ) (a b : Nat) {r : ρ} (hab : a ≤ b) (hs : ∀ k, a ≤ k → k < b → step (F k) = some (.inl (F (k + 1)))) (hx : step (F b) = some (.inr r)) : ∀ n, b - a < n → lp step n (F a) = some r := by
  intro n hn
  induction n generalizing a with
  | zero => omega
  | succ n ih =>
    unfold lp
    rcases Nat.lt_or_ge a b with h | h
    · rw [hs a (Nat.le_refl _) h]
      exact ih (a + 1) (by omega) (fun k h1 h2 => hs k (by omega) h2) (by omega)
    · have : a = b := by omega
      subst this
      rw [hx]
/-- a loop with a measure -/
theorem lp_rule {σ ρ : Type} {step : σ → Option (σ ⊕ ρ)} (I : σ → Prop) (μ : σ → Nat) (R : ρ → Prop) (hs : ∀ s, I s → (∃ s', step s = some (.inl s') ∧ I s' ∧ μ s' < μ s) ∨ (∃ r, step s = some (.inr r) ∧ R r)) : ∀ n s, I s → μ s < n → ∃ r, lp step n s = some r ∧ R r := by
  intro n
  induction n with
  | zero => intro s _ h; omega
  | succ n ih =>
    intro s hI hn
    unfold lp
    rcases hs s hI with ⟨s', e, h1, h2⟩ | ⟨r, e, h1⟩
    · rw [e]; exact ih s' h1 (by omega)
    · rw [e]; exact ⟨r, rfl, h1⟩
section WD
variable {X : Cx} {D : va_G} {ev : EvT} {cy : Nat → ClassId} {A : Nat → Prop} {nL : Nat} {cc : ByteArray} {own : String} {rm : Room} {ret : Option FieldType} {l : Launch} {Q : State → Prop} {k n pc : Nat} {lo : List (Nat × Value)} {st stk : List Value} {Gs Gs' Cs Cs' Rs : List va_W}
variable {y : MethodName} {bytes : ByteArray} {maxL : Nat} {rt : Option FieldType} {rc : Room} {As : List Value} {b index ci : Nat} {C : String} {T : u_T} {N : Nat} {fs : List Value}
theorem ww_nm {α : Type} (F : α → List va_W) (e : α) (kk : ∀ z, z = e → ww X D A nL Q k n pc lo st (F z)) : ww X D A nL Q k n pc lo st (F e) := kk e rfl
theorem ww_cV (v : Option Value) (h : cx X D ev cy A nL cc own rm ret l) (hF : Fn l y bytes maxL rt rc D ev cy (.ref b :: As) Cs (fun r G => r = v ∧ G = Cs')) (hcode : Cond.code y bytes maxL rt ∈ tbG) (hlink : Cond.methodLink own index y ∈ tbG) (hinst : Cond.instanceMethod y ∈ tbG) (hsel : Cond.selects C y y ∈ tbG) (hini : Cond.initialized C ∈ tbG) (hY : okY C y As.length)
    (hroom : rc.frames + 1 ≤ rm.frames ∧ 8 + (maxL + 11) + rc.locals ≤ rm.locals) (hcel : k + rc.cells ≤ rm.cells ∧ n + rc.slots ≤ rm.slots)
    (is : List Nat) (hp : pk_g is Gs = (Cs, Rs)) (g e : Nat) {cg : va_W} (hg : Cs[g]? = some cg) (he : cg[e]? = some (b, .inr (ci, fs))) (hcl : vwCl[ci]? = some (C, T, N)) (hst : stk = As.reverse ++ .ref b :: st) (hW : stW st ≤ 8) (hd : decode cc pc = .ok (.invokevirtual index, 3))
    (q : Nat) (hq : pc + 3 = q) (hz : rc.cells = 0 ∧ rc.slots = 0) {st' : List Value} (hst' : v.toList ++ st = st') (hG : Cs' ++ Rs = Gs') (kk : ww X D A nL Q k n q lo st' Gs') : ww X D A nL Q k n pc lo stk Gs := by
  subst hst'
  subst hG
  refine ww_callV h hF hcode hlink hinst hsel hini hY hroom hcel is hp g e hg he hcl hst hW hd q hq (fun r G hr => ?_)
  obtain ⟨rfl, rfl⟩ := hr
  rw [hz.1, hz.2]
  exact kk
theorem ww_cS (v : Option Value) (h : cx X D ev cy A nL cc own rm ret l) (hF : Fn l y bytes maxL rt rc D ev cy As Cs (fun r G => r = v ∧ G = Cs')) (hcode : Cond.code y bytes maxL rt ∈ tbG) (hlink : Cond.methodLink own index y ∈ tbG) (hstat : Cond.static y ∈ tbG) (hini : Cond.initialized C ∈ tbG) (hY : okY C y As.length)
    (hroom : rc.frames + 1 ≤ rm.frames ∧ 8 + (maxL + 11) + rc.locals ≤ rm.locals) (hcel : k + rc.cells ≤ rm.cells ∧ n + rc.slots ≤ rm.slots)
    (is : List Nat) (hp : pk_g is Gs = (Cs, Rs)) (hst : stk = As.reverse ++ st) (hW : stW st ≤ 8) (hd : decode cc pc = .ok (.invokestatic index, 3))
    (q : Nat) (hq : pc + 3 = q) (hz : rc.cells = 0 ∧ rc.slots = 0) {st' : List Value} (hst' : v.toList ++ st = st') (hG : Cs' ++ Rs = Gs') (kk : ww X D A nL Q k n q lo st' Gs') : ww X D A nL Q k n pc lo stk Gs := by
  subst hst'
  subst hG
  refine ww_callS h hF hcode hlink hstat hini hY hroom hcel is hp hst hW hd q hq (fun r G hr => ?_)
  obtain ⟨rfl, rfl⟩ := hr
  rw [hz.1, hz.2]
  exact kk
theorem ww_aaldR (h : cx X D ev cy A nL cc own rm ret l) {a N : Nat} {F : Nat → Nat} {i : Int32} {c : va_W} {ty : FieldType} {cA : ClassId} (g : Nat) (hg : Gs[g]? = some c) (e : Nat) (he : c[e]? = some (a, .inl (cA, N, .inr (.inr (.inr (.inr (fun j => some (F j)))))))) (t : Nat) (ht : (tyL cy)[t]? = some (cA, ty)) (hty : ty.isReference = true) (hi : vp_in i N) (hd : decode cc pc = .ok (.aaload, 1)) (q : Nat) (hq : pc + 1 = q) (kk : ww X D A nL Q k n q lo (.ref (F i.toNatClampNeg) :: st) Gs) : ww X D A nL Q k n pc lo (.int i :: .ref a :: st) Gs :=
  ww_aald h g hg e he t ht hty hi hd q hq kk
theorem ww_max (h : cx X D ev cy A nL cc own rm ret l) {x y : Int32} (hlink : Cond.methodLink own index Lib.Math.max.name ∈ tbG) (hstat : Cond.static Lib.Math.max.name ∈ tbG) (hini : Cond.initialized "java/lang/Math" ∈ tbG) (hcode : Cond.code Lib.Math.max.name Lib.Math.max.code 2 (some .int) ∈ tbG) (hr : 1 ≤ rm.frames ∧ stW st + 13 ≤ rm.locals ∧ k ≤ rm.cells ∧ n ≤ rm.slots) (hd : decode cc pc = .ok (.invokestatic index, 3)) (q : Nat) (hq : pc + 3 = q) (kk : ww X D A nL Q k n q lo (.int (if x < y then y else x) :: st) Gs) : ww X D A nL Q k n pc lo (.int y :: .int x :: st) Gs := by
  subst hq
  exact fun H locs ls hP hD hS hl => va_mmax h.1 h.2.1 (h.2.2.1.trans hl.1.symm) h.2.2.2.1 (h.2.2.2.2.1 _ hlink) (h.2.2.2.2.1 _ hstat) (h.2.2.2.2.1 _ hini) (h.2.2.2.2.1 _ hcode) (by rw [h.2.2.2.2.2.2.2.2.1]; exact hr.1) (by rw [h.2.2.2.2.2.2.2.2.1]; exact hr.2.1) (by rw [h.2.2.2.2.2.2.2.2.1]; exact hr.2.2.1) (by rw [h.2.2.2.2.2.2.2.2.1]; exact hr.2.2.2) hd (kk H locs ls hP hD hS hl)
theorem ww_min (h : cx X D ev cy A nL cc own rm ret l) {x y : Int32} (hlink : Cond.methodLink own index Lib.Math.min.name ∈ tbG) (hstat : Cond.static Lib.Math.min.name ∈ tbG) (hini : Cond.initialized "java/lang/Math" ∈ tbG) (hcode : Cond.code Lib.Math.min.name Lib.Math.min.code 2 (some .int) ∈ tbG) (hr : 1 ≤ rm.frames ∧ stW st + 13 ≤ rm.locals ∧ k ≤ rm.cells ∧ n ≤ rm.slots) (hd : decode cc pc = .ok (.invokestatic index, 3)) (q : Nat) (hq : pc + 3 = q) (kk : ww X D A nL Q k n q lo (.int (if y < x then y else x) :: st) Gs) : ww X D A nL Q k n pc lo (.int y :: .int x :: st) Gs := by
  subst hq
  exact fun H locs ls hP hD hS hl => va_mmin h.1 h.2.1 (h.2.2.1.trans hl.1.symm) h.2.2.2.1 (h.2.2.2.2.1 _ hlink) (h.2.2.2.2.1 _ hstat) (h.2.2.2.2.1 _ hini) (h.2.2.2.2.1 _ hcode) (by rw [h.2.2.2.2.2.2.2.2.1]; exact hr.1) (by rw [h.2.2.2.2.2.2.2.2.1]; exact hr.2.1) (by rw [h.2.2.2.2.2.2.2.2.1]; exact hr.2.2.1) (by rw [h.2.2.2.2.2.2.2.2.1]; exact hr.2.2.2) hd (kk H locs ls hP hD hS hl)
end WD
