theorem nIle {a b : Nat} (ha : a < 2 ^ 31) (hb : b < 2 ^ 31) : (nI a ≤ nI b) = (a ≤ b) := propext (nI_leI ha hb)
theorem nIlt {a b : Nat} (ha : a < 2 ^ 31) (hb : b < 2 ^ 31) : (nI a < nI b) = (a < b) := propext (nI_ltI ha hb)
theorem M_sqz {M : OV} {tb : Tb} {p : Pg} (h : RM (ar M 8) p) (hs : PgS p) (hR : RT M tb) (hT : TbS tb) (hpt : PgT tb p) {i b : Nat} (hi : i < pn p) (hb : b < pn p) (hg : Bool) : f_X10_squeezeOf M (nI i) (nI b) (bo hg) = some (nI (if i < b then fx tb p 5 i else if hg = true then 0 else fx tb p 5 i - fx tb p 4 i)) := by
  have h40 := hs.1
  have l0 := (hs.2.1 i hi).1
  have tt := hT _ l0
  have rr := (hR _ l0).2 (hpt i hi)
  have x26 : ix (nI (ps p i)) 26 = true := ix_nI l0 (by decide)
  have cc := nI_clamp (show ps p i < 2 ^ 31 by omega)
  have b4 : fx tb p 4 i ≤ 8 := tt.2.2.1
  have b5 : fx tb p 5 i ≤ 8 := tt.2.2.2.1
  have e4 : ar M 3 (ps p i) = nI (fx tb p 4 i) := rr.2.1
  have e5 : ar M 4 (ps p i) = nI (fx tb p 5 i) := rr.2.2.1
  unfold f_X10_squeezeOf
  simp only [M_class h hs hi, Option.bind_some, un1, bnd, gd_t x26, cc, e4, e5, bo_0, nIle (show b < 2 ^ 31 by omega) (show i < 2 ^ 31 by omega), nIle (show fx tb p 4 i < 2 ^ 31 by omega) (show fx tb p 5 i < 2 ^ 31 by omega)]
  by_cases c1 : b ≤ i
  · rw [if_pos c1, if_neg (show ¬ i < b by omega)]
    cases hg
    · by_cases c2 : fx tb p 4 i ≤ fx tb p 5 i
      · simp [c2, nI_sub c2]
      · simp [c2, show fx tb p 5 i - fx tb p 4 i = 0 by omega]; rfl
    · simp; rfl
  · rw [if_neg c1, if_pos (show i < b by omega)]
