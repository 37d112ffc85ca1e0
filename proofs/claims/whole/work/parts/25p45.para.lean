def tlB (C : OV) (x : Nat) : Bool := decide (f_X1_has C (nI x - 97) = some 1)
theorem tl_or {C M : OV} {tb : Tb} (hC : RC C tb) (hR : RT M tb) (hT : TbS tb) {x : Nat} (hx : x < 256) : f_X1_has C (nI x - 97) = some (bo (tlB C x)) ∧ f_X10_isTold M (nI x - 97) = some (bo (tlB C x)) ∧ (tlB C x = true → ∃ l, l < 26 ∧ x = l + 97 ∧ 0 < tb 0 l) := by
  rcases told_or hC hR hT (nI x - 97) with ⟨h1, h2⟩ | ⟨l, h1, h2, h3, h4, h5⟩
  · have : tlB C x = false := decide_eq_false (by rw [h1]; decide)
    rw [this]
    exact ⟨h1, h2, fun h => by cases h⟩
  · have : tlB C x = true := decide_eq_true h4
    rw [this]
    refine ⟨h4, h5, fun _ => ⟨l, h1, ?_, h3⟩⟩
    have e : nI x = nI (l + 97) := by
      have : nI x = nI x - 97 + 97 := by rw [Int32.sub_add_cancel]
      rw [this, h2]
      exact nI_add l 97
    have := nIe (show x < 2 ^ 31 by omega) (show l + 97 < 2 ^ 31 by omega)
    rw [this] at e
    exact e
def pgd (C : OV) (v : Nat → Nat) (i : Nat) : Bool := decide (v i = 32 ∨ (tlB C (v i) = true ∧ (cz v i).1 < 40))
def pgA (C : OV) (v : Nat → Nat) : Nat → Bool
  | 0 => true
  | i + 1 => pgA C v i && pgd C v i
theorem pgA_t {C : OV} {v : Nat → Nat} : ∀ i j, pgA C v i = true → j < i → pgd C v j = true
  | 0, _, _, h => by omega
  | i + 1, j, h, hj => by
    simp only [pgA, Bool.and_eq_true] at h
    by_cases c : j = i
    · rw [c]; exact h.2
    · exact pgA_t i j h.1 (by omega)
theorem pgA_f {C : OV} {v : Nat → Nat} : ∀ i, pgA C v i = false → ∃ m, m < i ∧ pgd C v m = false ∧ pgA C v m = true
  | 0, h => by cases h
  | i + 1, h => by
    cases c : pgA C v i
    · obtain ⟨m, h1, h2⟩ := pgA_f i c
      exact ⟨m, by omega, h2⟩
    · rw [pgA, c, Bool.true_and] at h
      exact ⟨i, by omega, h, c⟩
theorem cz40 {C : OV} {v : Nat → Nat} : ∀ i, pgA C v i = true → (cz v i).1 ≤ 40
  | 0, _ => Nat.zero_le _
  | i + 1, h => by
    simp only [pgA, Bool.and_eq_true] at h
    have ih := cz40 i h.1
    by_cases d : v i = 32
    · rw [cz_b d]; exact ih
    · rw [cz_l d]
      show _ + 1 ≤ 40
      have := (of_decide_eq_true h.2).resolve_left d
      omega
theorem T_fault {L T C M : OV} {aT : Nat → Nat} {oC len : Nat} {v : Nat → Nat} {tb : Tb} (hL : nv L 10 = oC) (hN : aT 98 = 500) (hTp : TPc T len v) (h5 : len ≤ 500) (hv : ∀ i, i < len → v i < 256) (hC : RC C tb) (hR : RT M tb) (hT : TbS tb) (h36 : iv M 36 = nI len) (h35 : ∀ i, i < len → ar M 35 i = nI (v i)) : (pgA C v len = true ∧ f_X9_paragraphFault L aT T oC C = some (-1) ∧ lp (s_X10_paragraph_4_3 M) 5000 (0, 0) = some (.inl (nI (cz v len).1, nI len))) ∨ ∃ m, m < len ∧ f_X9_paragraphFault L aT T oC C = some (nI m) ∧ ∃ x, lp (s_X10_paragraph_4_3 M) 5000 (0, 0) = some (.inl (x, nI m)) := by
  have s1 : ∀ i, i < len → pgA C v i = true → s_X9_paragraphFault_4_3 oC aT L T C (nI (cz v i).1, nI i) = (if pgd C v i = true then some (.inl (nI (cz v (i + 1)).1, nI (i + 1))) else some (.inr (.inr (nI i)))) ∧ s_X10_paragraph_4_3 M (nI (cz v i).1, nI i) = (if pgd C v i = true then some (.inl (nI (cz v (i + 1)).1, nI (i + 1))) else some (.inr (.inl (nI (cz v i).1, nI i)))) := by
    intro i hi hg
    have c40 := cz40 i hg
    have b := hv i hi
    have xi : ix (nI i) (aT 98) = true := by rw [hN]; exact ix_nI (by omega) (by decide)
    have xm : ix (nI i) 500 = true := ix_nI (by omega) (by decide)
    have ci := nI_clamp (show i < 2 ^ 31 by omega)
    have z3 : (nI (v i) = (32 : Int32)) = (v i = 32) := nIe (by omega) (by decide)
    have z4 : (nI (cz v i).1 = (40 : Int32)) = ((cz v i).1 = 40) := nIe (by omega) (by decide)
    have z5 : ((40 : Int32) ≤ nI (cz v i).1) = (40 ≤ (cz v i).1) := nIle (a := 40) (by decide) (by omega)
    obtain ⟨t1, t2, -⟩ := tl_or hC hR hT b
    constructor
    · simp only [s_X9_paragraphFault_4_3, un2, hTp.1, nIle (show len < 2 ^ 31 by omega) (show i < 2 ^ 31 by omega), if_neg (show ¬ len ≤ i by omega), gd_t xi, ci, hTp.2 i hi, z3, j_X9_paragraphFault_62_7, bnd, nI_1, gd_t (decide_eq_true hL), t1, Option.bind_some, un1, bo_0, z4, pgd, decide_eq_true_eq]
      by_cases d : v i = 32
      · rw [if_pos d, if_pos (Or.inl d), cz_b d]
      · rw [if_neg d, cz_l d]
        cases ht : tlB C (v i)
        · rw [if_pos rfl, if_neg (by simp [d])]
        · rw [if_neg (by simp)]
          by_cases d2 : (cz v i).1 = 40
          · rw [if_pos d2, if_neg (fun h => h.elim d (fun h => by omega))]
          · rw [if_neg d2, if_pos (Or.inr ⟨rfl, by omega⟩)]
    · simp only [s_X10_paragraph_4_3, un2, h36, nIle (show len < 2 ^ 31 by omega) (show i < 2 ^ 31 by omega), if_neg (show ¬ len ≤ i by omega), gd_t xm, ci, h35 i hi, z3, j_X10_paragraph_60_8, bnd, nI_1, t2, Option.bind_some, un1, bo_0, z5, pgd, decide_eq_true_eq, j_X10_paragraph_46_16, j_X10_paragraph_47_13]
      by_cases d : v i = 32
      · rw [if_pos d, if_pos (Or.inl d), cz_b d]
      · rw [if_neg d, cz_l d]
        cases ht : tlB C (v i)
        · rw [if_pos rfl, if_pos trivial, if_neg (by simp [d])]
        · rw [if_neg (by simp)]
          by_cases d2 : 40 ≤ (cz v i).1
          · rw [if_pos d2, if_pos trivial, if_neg (fun h => h.elim d (fun h => by omega))]
          · rw [if_neg d2, if_pos (Or.inr ⟨rfl, by omega⟩)]
            rfl
  have up : ∀ i, pgA C v i = true → pgd C v i = true → pgA C v (i + 1) = true := fun i a b => by rw [pgA, a, b]; rfl
  cases hg : pgA C v len
  · right
    obtain ⟨m, h1, h2, h3⟩ := pgA_f len hg
    refine ⟨m, h1, ?_, nI (cz v m).1, ?_⟩
    · obtain ⟨r, e, rfl⟩ := lp_inv (step := s_X9_paragraphFault_4_3 oC aT L T C) (fun i s => s = (nI (cz v i).1, nI i) ∧ pgA C v i = true) (fun r => r = .inr (nI m)) 0 m (Nat.zero_le _) (by
        rintro i s - hi ⟨rfl, hp⟩
        have hd := pgA_t m i h3 hi
        exact ⟨_, by rw [(s1 i (by omega) hp).1, if_pos hd], rfl, up i hp hd⟩) (by
        rintro s ⟨rfl, hp⟩
        exact ⟨_, by rw [(s1 m h1 hp).1, if_neg (by rw [h2]; simp)], rfl⟩) 5000 (by omega) (0, 0) ⟨rfl, rfl⟩
      unfold f_X9_paragraphFault
      simp only [bnd]
      rw [e, Option.bind_some, Sum.elim_inr]
    · obtain ⟨r, e, rfl⟩ := lp_inv (step := s_X10_paragraph_4_3 M) (fun i s => s = (nI (cz v i).1, nI i) ∧ pgA C v i = true) (fun r => r = .inl (nI (cz v m).1, nI m)) 0 m (Nat.zero_le _) (by
        rintro i s - hi ⟨rfl, hp⟩
        have hd := pgA_t m i h3 hi
        exact ⟨_, by rw [(s1 i (by omega) hp).2, if_pos hd], rfl, up i hp hd⟩) (by
        rintro s ⟨rfl, hp⟩
        exact ⟨_, by rw [(s1 m h1 hp).2, if_neg (by rw [h2]; simp)], rfl⟩) 5000 (by omega) (0, 0) ⟨rfl, rfl⟩
      exact e
  · left
    refine ⟨rfl, ?_, ?_⟩
    · obtain ⟨r, e, rfl⟩ := lp_inv (step := s_X9_paragraphFault_4_3 oC aT L T C) (fun i s => s = (nI (cz v i).1, nI i) ∧ pgA C v i = true) (fun r => r = .inl ()) 0 len (Nat.zero_le _) (by
        rintro i s - hi ⟨rfl, hp⟩
        have hd := pgA_t len i hg hi
        exact ⟨_, by rw [(s1 i hi hp).1, if_pos hd], rfl, up i hp hd⟩) (by
        rintro s ⟨rfl, hp⟩
        exact ⟨_, by simp only [s_X9_paragraphFault_4_3, un2, hTp.1, if_pos (Int32.le_refl _)], rfl⟩) 5000 (by omega) (0, 0) ⟨rfl, rfl⟩
      unfold f_X9_paragraphFault
      simp only [bnd]
      rw [e, Option.bind_some, Sum.elim_inl]
      rfl
    · obtain ⟨r, e, rfl⟩ := lp_inv (step := s_X10_paragraph_4_3 M) (fun i s => s = (nI (cz v i).1, nI i) ∧ pgA C v i = true) (fun r => r = .inl (nI (cz v len).1, nI len)) 0 len (Nat.zero_le _) (by
        rintro i s - hi ⟨rfl, hp⟩
        have hd := pgA_t len i hg hi
        exact ⟨_, by rw [(s1 i hi hp).2, if_pos hd], rfl, up i hp hd⟩) (by
        rintro s ⟨rfl, hp⟩
        exact ⟨_, by simp only [s_X10_paragraph_4_3, un2, h36, if_pos (Int32.le_refl _)], rfl⟩) 5000 (by omega) (0, 0) ⟨rfl, rfl⟩
      exact e
/-- the page with the letters put down -/
def pNew (p : Pg) (v : Nat → Nat) (i : Nat) : Pg := pPer p (cz v i).1 (cz v i).2 (fun _ => 0)
theorem P_para {P T C M : OV} {aT : Nat → Nat} {len : Nat} {v : Nat → Nat} {tb : Tb} {p : Pg} (hN : aT 98 = 500) (hTp : TPc T len v) (h5 : len ≤ 500) (hv : ∀ i, i < len → v i < 256) (hC : RC C tb) (hR : RT M tb) (hT : TbS tb) (hg : pgA C v len = true) (hP : PGc P p) : ∃ P', lp (s_X9_paragraph_20_16 aT T) 5000 (0, sI P 4 0) = some P' ∧ PGc P' (pNew p v len) := by
  obtain ⟨r, e, hr⟩ := lp_inv (step := s_X9_paragraph_20_16 aT T) (fun i s => ∃ P', s = (nI i, P') ∧ PGc P' (pNew p v i) ∧ (cz v i).1 ≤ 40) (fun r => PGc r (pNew p v len)) 0 len (Nat.zero_le _) (by
    rintro i s - hi ⟨P', rfl, hP', h40⟩
    have hd := of_decide_eq_true (pgA_t len i hg hi)
    have b := hv i hi
    have xi : ix (nI i) (aT 98) = true := by rw [hN]; exact ix_nI (by omega) (by decide)
    have ci := nI_clamp (show i < 2 ^ 31 by omega)
    have z3 : (nI (v i) = (32 : Int32)) = (v i = 32) := nIe (by omega) (by decide)
    by_cases d : v i = 32
    · refine ⟨(nI (i + 1), P'), ?_, P', rfl, ?_, ?_⟩
      · simp only [s_X9_paragraph_20_16, un2, hTp.1, nIle (show len < 2 ^ 31 by omega) (show i < 2 ^ 31 by omega), if_neg (show ¬ len ≤ i by omega), gd_t xi, ci, hTp.2 i hi, z3, if_pos d, j_X9_paragraph_71_20, bnd, nI_1]
      · unfold pNew; rw [cz_b d]; exact hP'
      · rw [cz_b d]; exact h40
    · obtain ⟨t1, t2⟩ := hd.resolve_left d
      obtain ⟨l, l1, l2, -⟩ := (tl_or hC hR hT b).2.2 t1
      have el : nI (v i) - 97 = nI (v i - 97) := pk_sub (a := v i) (b := 97) (by omega)
      obtain ⟨P2, e2, hP2⟩ := P_putIn hP' t2 (i := (cz v i).1) (l := v i - 97) (Nat.le_refl _)
      have e4 : iv P' 4 = nI (cz v i).1 := hP'.1.1
      refine ⟨(nI (i + 1), P2), ?_, P2, rfl, ?_, ?_⟩
      · simp only [s_X9_paragraph_20_16, un2, hTp.1, nIle (show len < 2 ^ 31 by omega) (show i < 2 ^ 31 by omega), if_neg (show ¬ len ≤ i by omega), gd_t xi, ci, hTp.2 i hi, z3, if_neg d, j_X9_paragraph_71_20, bnd, nI_1, e4, el, e2, Option.bind_some, un1]
      · unfold pNew
        rw [cz_l d]
        refine PG_per hP2 hP2.1.1 (fun k hk => ?_) (fun _ _ => rfl) (fun _ _ => rfl)
        have g0 := hP2.1.2.1 k hk
        have g1 := hP2.1.2.2.1 k hk
        have hk' : k < (cz v i).1 + 1 := hk
        rw [g0, g1]
        constructor
        · show nI (inS (pNew p v i) (cz v i).1 (v i - 97) k) = nI (if k = (cz v i).1 then v i - 97 else (cz v i).2 k)
          unfold inS
          by_cases c : k = (cz v i).1
          · rw [if_pos c]; simp [c]
          · rw [if_pos (show k < (cz v i).1 by omega), if_neg c]; rfl
        · show nI (inM (pNew p v i) (cz v i).1 k) = nI 0
          unfold inM
          by_cases c : k = (cz v i).1
          · simp [c]
          · rw [if_pos (by omega)]; rfl
      · rw [cz_l d]; show _ + 1 ≤ 40; omega) (by
    rintro s ⟨P', rfl, hP', h40⟩
    exact ⟨P', by simp only [s_X9_paragraph_20_16, un2, hTp.1, if_pos (Int32.le_refl _)], hP'⟩) 5000 (by omega) (0, sI P 4 0) ⟨sI P 4 0, rfl, PG_per hP (by rw [ivI, if_pos rfl]; rfl) (fun k hk => absurd hk (Nat.not_lt_zero k)) (fun _ _ => rfl) (fun k hk => by rw [ivI, if_neg hk]), Nat.zero_le _⟩
  exact ⟨r, e, hr⟩
theorem M_para {C M M1 : OV} {len : Nat} {v : Nat → Nat} {tb : Tb} {p : Pg} (h5 : len ≤ 500) (hv : ∀ i, i < len → v i < 256) (hC : RC C tb) (hR : RT M tb) (hT : TbS tb) (hg : pgA C v len = true) (hM : RM (ar M 8) p) (h35 : ∀ i, i < len → ar M1 35 i = nI (v i)) (h1 : ar M1 8 = upd (ar M 8) 0 0) : ∃ M', lp (s_X10_paragraph_96_23 (nI len)) 5000 (0, M1) = some M' ∧ RM (ar M' 8) (pNew p v len) ∧ (∀ k, k ≠ 8 → ar M' k = ar M1 k) ∧ ∀ k, iv M' k = iv M1 k := by
  obtain ⟨r, e, hr⟩ := lp_inv (step := s_X10_paragraph_96_23 (nI len)) (fun i s => ∃ M', s = (nI i, M') ∧ RM (ar M' 8) (pNew p v i) ∧ (cz v i).1 ≤ 40 ∧ (∀ k, k ≠ 8 → ar M' k = ar M1 k) ∧ ∀ k, iv M' k = iv M1 k) (fun r => RM (ar r 8) (pNew p v len) ∧ (∀ k, k ≠ 8 → ar r k = ar M1 k) ∧ ∀ k, iv r k = iv M1 k) 0 len (Nat.zero_le _) (by
    rintro i s - hi ⟨M', rfl, hM', h40, fa, fv⟩
    have hd := of_decide_eq_true (pgA_t len i hg hi)
    have b := hv i hi
    have xi : ix (nI i) 500 = true := ix_nI (by omega) (by decide)
    have ci := nI_clamp (show i < 2 ^ 31 by omega)
    have z3 : (nI (v i) = (32 : Int32)) = (v i = 32) := nIe (by omega) (by decide)
    have k35 : ar M' 35 i = nI (v i) := by rw [fa 35 (by decide)]; exact h35 i hi
    by_cases d : v i = 32
    · refine ⟨(nI (i + 1), M'), ?_, M', rfl, ?_, ?_, fa, fv⟩
      · simp only [s_X10_paragraph_96_23, un2, nIle (show len < 2 ^ 31 by omega) (show i < 2 ^ 31 by omega), if_neg (show ¬ len ≤ i by omega), gd_t xi, ci, k35, z3, if_pos d, j_X10_paragraph_161_27, bnd, nI_1]
      · unfold pNew; rw [cz_b d]; exact hM'
      · rw [cz_b d]; exact h40
    · obtain ⟨t1, t2⟩ := hd.resolve_left d
      obtain ⟨l, l1, l2, -⟩ := (tl_or hC hR hT b).2.2 t1
      have el : nI (v i) - 97 = nI (v i - 97) := pk_sub (a := v i) (b := 97) (by omega)
      obtain ⟨c, hc⟩ : ∃ c, c = (cz v i).1 := ⟨_, rfl⟩
      have m0 : ar M' 8 0 = nI c := by rw [hc]; exact hM'.1
      have mm1 : f_X10_many M' = some (nI c) := by rw [hc]; exact M_many hM'
      have x1 : ix (nI (1 + c)) 113 = true := ix_nI (by omega) (by decide)
      have x2 : ix (nI (41 + c)) 113 = true := ix_nI (by omega) (by decide)
      have x0 : ix (0 : Int32) 113 = true := by decide
      have c1 := nI_clamp (show 1 + c < 2 ^ 31 by omega)
      have c2 := nI_clamp (show 41 + c < 2 ^ 31 by omega)
      have c0 : (0 : Int32).toNatClampNeg = 0 := rfl
      have a1 : (1 : Int32) + nI c = nI (1 + c) := nI_add 1 c
      have a2 : (41 : Int32) + nI c = nI (41 + c) := nI_add 41 c
      obtain ⟨Ma, hMa⟩ : ∃ Ma, Ma = sA M' 8 (1 + c) (nI (v i - 97)) := ⟨_, rfl⟩
      have ea : ar Ma 8 = upd (ar M' 8) (1 + c) (nI (v i - 97)) := by rw [hMa, arA, if_pos rfl]
      have mm2 : f_X10_many Ma = some (nI c) := by
        unfold f_X10_many
        rw [gd_t x0, c0, ea, updE, if_neg (by omega), m0]
      obtain ⟨Mb, hMb⟩ : ∃ Mb, Mb = sA Ma 8 (41 + c) 0 := ⟨_, rfl⟩
      have eb : ar Mb 8 = upd (ar Ma 8) (41 + c) 0 := by rw [hMb, arA, if_pos rfl]
      have b0 : ar Mb 8 0 = nI c := by rw [eb, updE, if_neg (by omega), ea, updE, if_neg (by omega), m0]
      refine ⟨(nI (i + 1), sA Mb 8 0 (nI (c + 1))), ?_, _, rfl, ?_, ?_, fun k hk => ?_, fun k => ?_⟩
      · simp only [s_X10_paragraph_96_23, un2, nIle (show len < 2 ^ 31 by omega) (show i < 2 ^ 31 by omega), if_neg (show ¬ len ≤ i by omega), gd_t xi, ci, k35, z3, if_neg d, mm1, Option.bind_some, un1, a1, gd_t x1, c1, el, bnd, ← hMa, mm2, a2, gd_t x2, c2, ← hMb, gd_t x0, c0, b0, j_X10_paragraph_161_27, nI_1]
      · unfold pNew
        rw [cz_l d, arA, if_pos rfl]
        refine RM_per hM' ?_ (fun k hk => ?_) (fun j hj => ?_)
        · rw [updE, if_pos rfl, hc]
        · have hk' : k < c + 1 := by rw [hc]; exact hk
          rw [updE, if_neg (by omega), updE, if_neg (by omega), eb, updE, updE, if_neg (by omega), ea, updE, updE, if_neg (show ¬ 41 + k = 1 + c by omega)]
          constructor
          · show _ = nI (if k = (cz v i).1 then v i - 97 else (cz v i).2 k)
            by_cases cc : k = c
            · rw [if_pos (by omega), if_pos (by rw [← hc]; exact cc)]
            · rw [if_neg (by omega), if_neg (by rw [← hc]; exact cc)]
              exact hM'.2.1 k (show k < (cz v i).1 by rw [← hc]; omega)
          · show _ = nI 0
            by_cases cc : k = c
            · rw [if_pos (by omega)]; rfl
            · rw [if_neg (by omega)]
              exact hM'.2.2.1 k (show k < (cz v i).1 by rw [← hc]; omega)
        · rw [updE, if_neg (by omega), eb, updE, if_neg (by omega), ea, updE, if_neg (by omega)]
      · rw [cz_l d]; show _ + 1 ≤ 40; omega
      · rw [arA, if_neg hk, hMb, arA, if_neg hk, hMa, arA, if_neg hk]; exact fa k hk
      · rw [← fv k, hMb, hMa]; rfl) (by
    rintro s ⟨M', rfl, hM', h40, fa, fv⟩
    exact ⟨M', by simp only [s_X10_paragraph_96_23, un2, if_pos (Int32.le_refl _)], hM', fa, fv⟩) 5000 (by omega) (0, M1) ⟨M1, rfl, RM_per hM (by rw [h1, updE, if_pos rfl]; rfl) (fun k hk => absurd hk (Nat.not_lt_zero k)) (fun j hj => by rw [h1, updE, if_neg (by omega)]), Nat.zero_le _, fun _ _ => rfl, fun _ => rfl⟩
  exact ⟨r, e, hr⟩
theorem cz_told {C M : OV} {v : Nat → Nat} {tb : Tb} (hC : RC C tb) (hR : RT M tb) (hT : TbS tb) : ∀ i, pgA C v i = true → (∀ j, j < i → v j < 256) → ∀ k, k < (cz v i).1 → (cz v i).2 k < 26 ∧ 0 < tb 0 ((cz v i).2 k)
  | 0, _, _, k, hk => absurd hk (Nat.not_lt_zero k)
  | i + 1, h, hv, k, hk => by
    have hd := of_decide_eq_true (pgA_t (i + 1) i h (by omega))
    simp only [pgA, Bool.and_eq_true] at h
    have ih := cz_told hC hR hT i h.1 (fun j hj => hv j (by omega)) k
    by_cases d : v i = 32
    · rw [cz_b d] at hk ⊢
      exact ih hk
    · rw [cz_l d] at hk ⊢
      obtain ⟨t1, t2⟩ := hd.resolve_left d
      obtain ⟨l, l1, l2, l3⟩ := (tl_or hC hR hT (hv i (by omega))).2.2 t1
      have hk' : k < (cz v i).1 + 1 := hk
      show (if k = (cz v i).1 then v i - 97 else (cz v i).2 k) < 26 ∧ 0 < tb 0 (if k = (cz v i).1 then v i - 97 else (cz v i).2 k)
      by_cases c : k = (cz v i).1
      · rw [if_pos c, show v i - 97 = l by omega]
        exact ⟨l1, l3⟩
      · rw [if_neg c]
        exact ih (by omega)
theorem ok_paragraph : Ok_paragraph INV := by
  rintro o a aK Z B hI -
  obtain ⟨tb, p, len, v, cnt, nx, q, hc⟩ := hI
  obtain ⟨i1, ⟨i2, i2'⟩, i3, i4, i5, i6, i7, i8, i9, i10, ⟨hRT, hM, h36, h35, m5, m6, m7⟩, ⟨hT, u2, hG, h500, hv, u6⟩⟩ := hc
  have hs := hG.1
  have hC := i6.1
  have x0 : ix (0 : Int32) 113 = true := by decide
  have c0 : (0 : Int32).toNatClampNeg = 0 := rfl
  rcases T_fault (L := Z 0) i2 i1.1 i3 h500 hv hC hRT hT h36 h35 with ⟨hg, e1, e2⟩ | ⟨m, hm, e1, x, e2⟩
  · obtain ⟨P', e3, hP'⟩ := P_para i1.1 i3 h500 hv hC hRT hT hg i4
    obtain ⟨M', e4, hM', fa, fv⟩ := M_para (M1 := sA (sI (Z 28) 36 0) 8 0 0) h500 hv hC hRT hT hg hM (fun i hi => by rw [arA, if_neg (by decide)]; exact h35 i hi) (by rw [arA, if_pos rfl]; rfl)
    have hG' : PgG tb (pNew p v len) := PgG_per hG (cz40 len hg) (cz_told hC hRT hT len hg hv) (fun _ _ => Nat.zero_le _)
    have fa' : ∀ k, k ≠ 8 → ar M' k = ar (Z 28) k := fun k hk => by rw [fa k hk, arA, if_neg hk]; rfl
    refine ⟨(nI (cz v len).1, sI (Z 0) 12 0, sI (Z 1) 1 0, P', sI (Z 5) 2 0, sI (Z 9) 3 0, sI (Z (24 + 0)) 7 0, sI (Z (24 + 1)) 7 0, sI (Z (24 + 2)) 7 0, sI (Z (24 + 3)) 7 0), (nI (cz v len).1, sI M' 11 0), ?_, ?_, rfl, ?_⟩
    · unfold f_X9_paragraph
      rw [e1, Option.bind_some]
      simp only [un1, bnd_e]
      rw [if_pos trivial, e3, Option.bind_some]
      simp only [f_X2_clear, bnd_e, Option.bind_some]
      have hf : f_X9_forget (Z 0) (Z 9) (Z (24 + 0)) (Z (24 + 1)) (Z (24 + 2)) (Z (24 + 3)) = some (sI (Z 0) 12 0, sI (Z 9) 3 0, sI (Z (24 + 0)) 7 0, sI (Z (24 + 1)) 7 0, sI (Z (24 + 2)) 7 0, sI (Z (24 + 3)) 7 0) := rfl
      rw [hf, Option.bind_some]
      simp only [un6, j_X9_paragraph_88_12, bnd_e]
      rw [if_pos trivial]
      rw [show iv P' 4 = nI (cz v len).1 from hP'.1.1]
    · unfold f_X10_paragraph
      simp only [bnd_e]
      rw [e2, Option.bind_some, Sum.elim_inl]
      simp only [un2]
      rw [h36, if_pos (Int32.le_refl _), gd_t x0, c0, e4, Option.bind_some]
      simp only [un1]
    · refine ⟨tb, pNew p v len, 0, v, 0, nx, q, i1, ⟨i2, i2'⟩, ⟨rfl, fun i hi => absurd hi (Nat.not_lt_zero i)⟩, hP', ⟨i5.1, rfl, i5.2.2.1, by decide, fun j hj => absurd hj (Nat.not_lt_zero j)⟩, i6, i7, Or.inl rfl, ⟨Or.inl rfl, Or.inl rfl, Or.inl rfl, Or.inl rfl⟩, Or.inl rfl, ⟨?_, hM', ?_, fun i hi => absurd hi (Nat.not_lt_zero i), rfl, fun j hj => absurd hj (Nat.not_lt_zero j), ?_⟩, ⟨hT, u2, hG', by decide, fun i hi => absurd hi (Nat.not_lt_zero i), fun j hj => absurd hj (Nat.not_lt_zero j)⟩⟩
      · show RT M' tb
        unfold RT
        rw [fa' 1 (by decide), fa' 2 (by decide), fa' 3 (by decide), fa' 4 (by decide), fa' 5 (by decide), fa' 6 (by decide), fa' 7 (by decide)]
        exact hRT
      · show iv (sI M' 11 0) 36 = nI 0
        rw [ivI, if_neg (by decide), fv 36]
        rfl
      · show ∀ i, i < 58 → ar M' 37 i = _
        rw [fa' 37 (by decide)]
        exact m7
  · have hm2 : ¬ nI m = (-1 : Int32) := nI_ne1 (by omega)
    have hm3 : ¬ nI len ≤ nI m := by rw [nIle (by omega) (by omega)]; omega
    refine ⟨(-4 - nI m, Z 0, sI (Z 1) 1 0, Z 3, Z 5, Z 9, Z (24 + 0), Z (24 + 1), Z (24 + 2), Z (24 + 3)), (-4 - nI m, sI (Z 28) 36 0), ?_, ?_, rfl, ?_⟩
    · unfold f_X9_paragraph
      rw [e1, Option.bind_some]
      simp only [un1, bnd_e]
      rw [if_neg hm2]
      simp only [j_X9_paragraph_88_12, bnd_e]
      rw [if_neg hm2]
    · unfold f_X10_paragraph
      simp only [bnd_e]
      rw [e2, Option.bind_some, Sum.elim_inl]
      simp only [un2]
      rw [h36, if_neg hm3]
    · exact ⟨tb, p, 0, v, cnt, nx, q, i1, ⟨i2, i2'⟩, ⟨rfl, fun i hi => absurd hi (Nat.not_lt_zero i)⟩, i4, i5, i6, i7, i8, i9, i10, ⟨hRT, hM, rfl, fun i hi => absurd hi (Nat.not_lt_zero i), m5, m6, m7⟩, ⟨hT, u2, hG, by decide, fun i hi => absurd hi (Nat.not_lt_zero i), u6⟩⟩
