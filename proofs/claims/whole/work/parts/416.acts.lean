/-! ===== the pure side: what acts write ===== -/
section Acts
variable {N : Nat} {S : mk_S} {A : mk_L} {M : mj_M}
theorem mk_Mkeep1 (hN : 10000 ≤ N) {K : Nat} (hK : K < 40) (h48 : M 48 32 = nI K) : ∃ M', F_M_keep_b54 N N 0 M = some M' ∧ (∀ c, c ≠ 67 → c ≠ 48 → M' c = M c) ∧ (∀ k, k ≠ 32 → M' 48 k = M 48 k) ∧ M' 48 32 = nI (K + 1) ∧ (∀ k, k < 229 * K → M' 67 k = M 67 k) ∧ ∀ k, k < 229 → M' 67 (229 * K + k) = M 65 k := by
  obtain ⟨M', p, q⟩ := mk_lp (L := fun n (_ : Unit) i M => F_M_keep_b54 N n (nI i) M) 229 (fun _ s => s) (fun i _ M1 => (∀ c, c ≠ 67 → M1 c = M c) ∧ (∀ k, k < 229 * K → M1 67 k = M 67 k) ∧ ∀ k, k < i → M1 67 (229 * K + k) = M 65 k) (fun _ M => some (mj_u M 48 32 (M 48 32 + 1)))
    (fun n s M1 p => by rw [F_M_keep_b54, nl_229, if_pos (Int32.le_refl _)]; rfl)
    (fun n s i M1 hi p => by
      obtain ⟨p1, p2, p3⟩ := p
      refine ⟨mj_u M1 67 (229 * K + i) (M 65 i), ⟨fun c hc => by rw [nw_u9 _ hc]; exact p1 c hc, fun k hk => ?_, fun k hk => ?_⟩, ?_⟩
      · rw [mj_u_eq, mj_up_ne _ _ _ (by omega)]; exact p2 k hk
      · rw [mj_u_eq]
        by_cases e : k = i
        · rw [e, mj_up_eq]
        · rw [mj_up_ne _ _ _ (by omega)]; exact p3 k (by omega)
      · rw [F_M_keep_b54, nl_229, if_neg (nI_ge hi (by omega)), p1 48 (by omega), h48, pk_mul, nI_add, nw_ck (by omega) (by omega), nw_ck (by omega) (by omega), nI_clamp (by omega), nI_clamp (by omega), p1 65 (by omega), nI_1]
        rfl)
    229 0 N () M (by omega) (by omega) ⟨fun _ _ => rfl, fun _ _ => rfl, fun k hk => by omega⟩
  obtain ⟨p1, p2, p3⟩ := p
  refine ⟨_, q, fun c h1 h2 => by rw [nw_u9 _ h2]; exact p1 c h1, fun k hk => by rw [mj_u_eq, mj_up_ne _ _ _ hk, p1 48 (by omega)], by rw [mj_u_eq, mj_up_eq, p1 48 (by omega), h48, nI_1], fun k hk => by rw [nw_u9 _ (by omega)]; exact p2 k hk, fun k hk => by rw [nw_u9 _ (by omega)]; exact p3 k hk⟩
theorem mk_Mkeep2 (hN : 10000 ≤ N) (h48 : M 48 32 = nI 40) : ∃ M', F_M_keep_b13 N N 229 M = F_M_keep_b54 N N 0 M' ∧ (∀ c, c ≠ 67 → c ≠ 48 → M' c = M c) ∧ (∀ k, k ≠ 32 → M' 48 k = M 48 k) ∧ M' 48 32 = nI 39 ∧ (∀ k, k < 229 * 39 → M' 67 k = M 67 (k + 229)) := by
  obtain ⟨M', p, q⟩ := mk_lp (L := fun n (_ : Unit) i M => F_M_keep_b13 N n (nI i) M) 9160 (fun _ s => s) (fun i _ M1 => 229 ≤ i ∧ (∀ c, c ≠ 67 → M1 c = M c) ∧ (∀ k, k + 229 < i → M1 67 k = M 67 (k + 229)) ∧ ∀ k, i ≤ k + 229 → M1 67 k = M 67 k) (fun _ M => F_M_keep_b54 N N 0 (mj_u M 48 32 (M 48 32 - 1)))
    (fun n s M1 p => by rw [F_M_keep_b13, show (9160 : Int32) = nI 9160 from rfl, if_pos (Int32.le_refl _)]; rfl)
    (fun n s i M1 hi p => by
      obtain ⟨h229, p1, p2, p3⟩ := p
      refine ⟨mj_u M1 67 (i - 229) (M1 67 i), ⟨by omega, fun c hc => by rw [nw_u9 _ hc]; exact p1 c hc, fun k hk => ?_, fun k hk => ?_⟩, ?_⟩
      · rw [mj_u_eq]
        by_cases e : k = i - 229
        · rw [e, mj_up_eq, p3 i (by omega)]
          congr 1
          omega
        · rw [mj_up_ne _ _ _ e]; exact p2 k (by omega)
      · rw [mj_u_eq, mj_up_ne _ _ _ (by omega)]; exact p3 k (by omega)
      · rw [F_M_keep_b13, show (9160 : Int32) = nI 9160 from rfl, if_neg (nI_ge hi (by omega)), nl_229, pk_sub (by omega), nw_ck (by omega) (by omega), nw_ck (by omega) (by omega), nI_clamp (by omega), nI_clamp (by omega), nI_1]
        rfl)
    8931 229 N () M (by omega) (by omega) ⟨by omega, fun _ _ => rfl, fun k hk => by omega, fun _ _ => rfl⟩
  obtain ⟨-, p1, p2, p3⟩ := p
  refine ⟨_, q, fun c h1 h2 => by rw [nw_u9 _ h2]; exact p1 c h1, fun k hk => by rw [mj_u_eq, mj_up_ne _ _ _ hk, p1 48 (by omega)], by rw [mj_u_eq, mj_up_eq, p1 48 (by omega), h48]; rfl, fun k hk => by rw [nw_u9 _ (by omega)]; exact p2 k (by omega)⟩
theorem mk_Mkeep' (hN : 10000 ≤ N) (hw : mk_W S A) (hM : mk_M S A M) : ∃ M', F_M_keep N M = some M' ∧ mk_M (mk_keep S) A M' ∧ mk_fm M M' ∧ ∀ k, k ≠ 32 → M' 48 k = M 48 k := by
  have hk := hw.kept
  have fin : ∀ M', (∀ c, c ≠ 67 → c ≠ 48 → M' c = M c) → (∀ k, k ≠ 32 → M' 48 k = M 48 k) → M' 48 32 = nI (min (S 48 32 + 1) 40) → (∀ j, j < min (S 48 32 + 1) 40 → ∀ k, k < 229 → M' 67 (229 * (min (S 48 32 + 1) 40 - 1 - j) + k) = nI (mk_keep S (100 + j) k)) → mk_M (mk_keep S) A M' ∧ mk_fm M M' ∧ ∀ k, k ≠ 32 → M' 48 k = M 48 k := by
    intro M' f g e r
    refine ⟨?_, fun c hc => f c (by omega) (by omega), g⟩
    unfold mk_M
    rw [mk_keep48]
    simp (disch := omega) only [mk_keepn, mj_up_eq, mj_up_ne, f, g]
    exact ⟨hM.size, hM.laws, hM.hs, hM.ts, hM.hold, hM.why, e, hM.sights, hM.img, hM.tape, hM.lens, fun n hn => mk_cl_cg (f _ (by omega) (by omega)) (f _ (by omega) (by omega)) (f _ (by omega) (by omega)) (f _ (by omega) (by omega)) (f _ (by omega) (by omega)) _ _ _ (hM.codes n hn), hM.often, hM.house, hM.tale, hM.now, hM.ref, r, hM.sh, hM.sb, hM.si, hM.image⟩
  unfold F_M_keep
  by_cases c : S 48 32 = 40
  · rw [hM.kept, c, if_pos (by decide +kernel)]
    obtain ⟨M1, e1, f1, g1, h1, r1⟩ := mk_Mkeep2 hN (show M 48 32 = nI 40 by rw [hM.kept, c])
    obtain ⟨M2, e2, f2, g2, h2, r2, n2⟩ := mk_Mkeep1 hN (show 39 < 40 by omega) h1
    refine ⟨M2, e1.trans e2, fin M2 (fun c a b => (f2 c a b).trans (f1 c a b)) (fun k hk => (g2 k hk).trans (g1 k hk)) (by rw [h2]; congr 1; omega) (fun j hj k hk => ?_)⟩
    rw [show min (S 48 32 + 1) 40 = 40 by omega]
    cases j with
    | zero => rw [show 229 * (40 - 1 - 0) + k = 229 * 39 + k by omega, n2 k hk, f1 65 (by omega) (by omega), show 100 + 0 = 100 from rfl, mk_keep100, hM.now k hk]
    | succ j =>
      rw [mk_keepj (by omega), r2 _ (by omega), r1 _ (by omega)]
      have := hM.rows j (by omega) k hk
      rw [c] at this
      rw [← this]
      congr 1
      omega
  · rw [hM.kept, if_neg (show ¬ nI (S 48 32) = (40 : Int32) by rw [nl_40, nw_eq (by omega) (by omega)]; exact c)]
    obtain ⟨M2, e2, f2, g2, h2, r2, n2⟩ := mk_Mkeep1 hN (show S 48 32 < 40 by omega) hM.kept
    refine ⟨M2, e2, fin M2 f2 g2 (by rw [h2]; congr 1; omega) (fun j hj k hk => ?_)⟩
    rw [show min (S 48 32 + 1) 40 = S 48 32 + 1 by omega] at hj ⊢
    cases j with
    | zero => rw [show 229 * (S 48 32 + 1 - 1 - 0) + k = 229 * S 48 32 + k by omega, n2 k hk, show 100 + 0 = 100 from rfl, mk_keep100, hM.now k hk]
    | succ j =>
      rw [mk_keepj (by omega), r2 _ (by omega), ← hM.rows j (by omega) k hk]
      congr 1
      omega
theorem mk_Mkeep (hN : 10000 ≤ N) (hw : mk_W S A) (hM : mk_M S A M) : ∃ M', F_M_keep N M = some M' ∧ mk_M (mk_keep S) A M' ∧ mk_fm M M' := by
  obtain ⟨M1, e1, x1, f1, -⟩ := mk_Mkeep' hN hw hM
  exact ⟨M1, e1, x1, f1⟩
theorem mk_u5 {k v : Nat} : mk_u S 65 k v 65 = va_up (S 65) k v := mk_u_eq
theorem mk_up_comm {f : Nat → Nat} {a b x y : Nat} (h : a ≠ b) : va_up (va_up f a x) b y = va_up (va_up f b y) a x := by
  funext j
  by_cases c : j = a
  · rw [c, mj_up_ne _ _ _ h, mj_up_eq, mj_up_eq]
  · by_cases d : j = b
    · rw [d, mj_up_eq, mj_up_ne _ _ _ (Ne.symm h), mj_up_eq]
    · rw [mj_up_ne _ _ _ d, mj_up_ne _ _ _ c, mj_up_ne _ _ _ c, mj_up_ne _ _ _ d]
theorem mk_u_comm {a b x y : Nat} (h : a ≠ b) : mk_u (mk_u S 65 a x) 65 b y = mk_u (mk_u S 65 b y) 65 a x := by
  funext c
  by_cases d : c = 65
  · rw [d, mk_u5, mk_u5, mk_u5, mk_u5, mk_up_comm h]
  · rw [mk_un1 d, mk_un1 d, mk_un1 d, mk_un1 d]
theorem mk_M.n {k v : Nat} (hM : mk_M S A M) : mk_M (mk_u S 65 k v) A (mj_u M 65 k (nI v)) := by
  unfold mk_M
  simp (disch := omega) only [nw_u9, mj_u_eq, mj_up_eq, mj_up_ne, nw_a9, nw_ae, mk_un1, mk_u_eq]
  refine ⟨hM.size, hM.laws, hM.hs, hM.ts, hM.hold, hM.why, hM.kept, hM.sights, hM.img, hM.tape, hM.lens, fun n hn => mk_cl_cg (nw_u9 _ (by omega)) (nw_u9 _ (by omega)) (nw_u9 _ (by omega)) (nw_u9 _ (by omega)) (nw_u9 _ (by omega)) _ _ _ (hM.codes n hn), hM.often, hM.house, hM.tale, fun j hj => ?_, hM.ref, hM.rows, hM.sh, hM.sb, hM.si, hM.image⟩
  by_cases c : j = k
  · rw [c, mj_up_eq, mj_up_eq]
  · rw [mj_up_ne _ _ _ c, mj_up_ne _ _ _ c]; exact hM.now j hj
theorem mk_xr_cg {ring : Nat → Int32} {sn sn' : Nat → Nat} (h : ∀ k, 48 ≤ k → sn' k = sn k) (hr : mk_xr ring sn) : mk_xr ring sn' := by
  intro i hi
  rw [h 48 (by omega)] at hi
  rw [h 48 (by omega), h 229 (by omega), h _ (by omega), h _ (by omega), h _ (by omega)]
  exact hr i hi
theorem mk_X.n42 {v : Nat} (hX : mk_X S A M) (t6 : S 48 26 ≤ 6) : mk_X (mk_u S 65 42 v) A (mj_u M 20 0 (nI v)) := by
  have hr := hX.ring
  have hn := hX.now
  unfold mk_X
  simp (disch := omega) only [nw_u9, mj_u_eq, mj_up_eq, mj_up_ne, nw_a9, nw_ae, mk_un1, mk_u_eq]
  refine ⟨hX.why, hX.ref, hX.size, hX.tape, hX.laws, hX.hold, hX.lens, hX.codes, hX.hs, hX.ts, hX.often, hX.known, hX.cur, hX.warm, hX.len, hX.kn, hX.tru, ?_, mk_xr_cg (fun k hk => mj_up_ne _ _ _ (by omega)) hr, hX.kept, hX.img, hX.next, hX.rows, hX.image, hX.sights, hX.sh, hX.sb, hX.si⟩
  obtain ⟨n1, n2, n3, n4, n5, n6, n7, n8, n9⟩ := hn
  unfold mk_xl
  simp (disch := omega) only [mj_up_eq, mj_up_ne]
  exact ⟨trivial, n2, n3, n4, n5, n6, n7, fun t ht => by rw [mj_up_ne _ _ _ (by omega)]; exact n8 t ht, fun k hk => by rw [mj_up_ne _ _ _ (by omega)]; exact n9 k hk⟩
theorem mk_X.n43 {v : Nat} (hX : mk_X S A M) (t6 : S 48 26 ≤ 6) : mk_X (mk_u S 65 43 v) A (mj_u M 20 1 (nI v)) := by
  have hr := hX.ring
  have hn := hX.now
  unfold mk_X
  simp (disch := omega) only [nw_u9, mj_u_eq, mj_up_eq, mj_up_ne, nw_a9, nw_ae, mk_un1, mk_u_eq]
  refine ⟨hX.why, hX.ref, hX.size, hX.tape, hX.laws, hX.hold, hX.lens, hX.codes, hX.hs, hX.ts, hX.often, hX.known, hX.cur, hX.warm, hX.len, hX.kn, hX.tru, ?_, mk_xr_cg (fun k hk => mj_up_ne _ _ _ (by omega)) hr, hX.kept, hX.img, hX.next, hX.rows, hX.image, hX.sights, hX.sh, hX.sb, hX.si⟩
  obtain ⟨n1, n2, n3, n4, n5, n6, n7, n8, n9⟩ := hn
  unfold mk_xl
  simp (disch := omega) only [mj_up_eq, mj_up_ne]
  exact ⟨n1, trivial, n3, n4, n5, n6, n7, fun t ht => by rw [mj_up_ne _ _ _ (by omega)]; exact n8 t ht, fun k hk => by rw [mj_up_ne _ _ _ (by omega)]; exact n9 k hk⟩
theorem mk_X.n44 {v : Nat} (hX : mk_X S A M) (t6 : S 48 26 ≤ 6) : mk_X (mk_u S 65 44 v) A (mj_u M 20 2 (nI v)) := by
  have hr := hX.ring
  have hn := hX.now
  unfold mk_X
  simp (disch := omega) only [nw_u9, mj_u_eq, mj_up_eq, mj_up_ne, nw_a9, nw_ae, mk_un1, mk_u_eq]
  refine ⟨hX.why, hX.ref, hX.size, hX.tape, hX.laws, hX.hold, hX.lens, hX.codes, hX.hs, hX.ts, hX.often, hX.known, hX.cur, hX.warm, hX.len, hX.kn, hX.tru, ?_, mk_xr_cg (fun k hk => mj_up_ne _ _ _ (by omega)) hr, hX.kept, hX.img, hX.next, hX.rows, hX.image, hX.sights, hX.sh, hX.sb, hX.si⟩
  obtain ⟨n1, n2, n3, n4, n5, n6, n7, n8, n9⟩ := hn
  unfold mk_xl
  simp (disch := omega) only [mj_up_eq, mj_up_ne]
  exact ⟨n1, n2, trivial, n4, n5, n6, n7, fun t ht => by rw [mj_up_ne _ _ _ (by omega)]; exact n8 t ht, fun k hk => by rw [mj_up_ne _ _ _ (by omega)]; exact n9 k hk⟩
theorem mk_X.n45 {v : Nat} (hX : mk_X S A M) (t6 : S 48 26 ≤ 6) : mk_X (mk_u S 65 45 v) A (mj_u M 20 3 (nI v)) := by
  have hr := hX.ring
  have hn := hX.now
  unfold mk_X
  simp (disch := omega) only [nw_u9, mj_u_eq, mj_up_eq, mj_up_ne, nw_a9, nw_ae, mk_un1, mk_u_eq]
  refine ⟨hX.why, hX.ref, hX.size, hX.tape, hX.laws, hX.hold, hX.lens, hX.codes, hX.hs, hX.ts, hX.often, hX.known, hX.cur, hX.warm, hX.len, hX.kn, hX.tru, ?_, mk_xr_cg (fun k hk => mj_up_ne _ _ _ (by omega)) hr, hX.kept, hX.img, hX.next, hX.rows, hX.image, hX.sights, hX.sh, hX.sb, hX.si⟩
  obtain ⟨n1, n2, n3, n4, n5, n6, n7, n8, n9⟩ := hn
  unfold mk_xl
  simp (disch := omega) only [mj_up_eq, mj_up_ne]
  exact ⟨n1, n2, n3, trivial, n5, n6, n7, fun t ht => by rw [mj_up_ne _ _ _ (by omega)]; exact n8 t ht, fun k hk => by rw [mj_up_ne _ _ _ (by omega)]; exact n9 k hk⟩
theorem mk_X.n46 {v : Nat} (hX : mk_X S A M) (t6 : S 48 26 ≤ 6) : mk_X (mk_u S 65 46 v) A (mj_u M 20 4 (nI v)) := by
  have hr := hX.ring
  have hn := hX.now
  unfold mk_X
  simp (disch := omega) only [nw_u9, mj_u_eq, mj_up_eq, mj_up_ne, nw_a9, nw_ae, mk_un1, mk_u_eq]
  refine ⟨hX.why, hX.ref, hX.size, hX.tape, hX.laws, hX.hold, hX.lens, hX.codes, hX.hs, hX.ts, hX.often, hX.known, hX.cur, hX.warm, hX.len, hX.kn, hX.tru, ?_, mk_xr_cg (fun k hk => mj_up_ne _ _ _ (by omega)) hr, hX.kept, hX.img, hX.next, hX.rows, hX.image, hX.sights, hX.sh, hX.sb, hX.si⟩
  obtain ⟨n1, n2, n3, n4, n5, n6, n7, n8, n9⟩ := hn
  unfold mk_xl
  simp (disch := omega) only [mj_up_eq, mj_up_ne]
  exact ⟨n1, n2, n3, n4, trivial, n6, n7, fun t ht => by rw [mj_up_ne _ _ _ (by omega)]; exact n8 t ht, fun k hk => by rw [mj_up_ne _ _ _ (by omega)]; exact n9 k hk⟩
theorem mk_X.n47 {v : Nat} (hX : mk_X S A M) (t6 : S 48 26 ≤ 6) : mk_X (mk_u S 65 47 v) A (mj_u M 20 5 (nI v)) := by
  have hr := hX.ring
  have hn := hX.now
  unfold mk_X
  simp (disch := omega) only [nw_u9, mj_u_eq, mj_up_eq, mj_up_ne, nw_a9, nw_ae, mk_un1, mk_u_eq]
  refine ⟨hX.why, hX.ref, hX.size, hX.tape, hX.laws, hX.hold, hX.lens, hX.codes, hX.hs, hX.ts, hX.often, hX.known, hX.cur, hX.warm, hX.len, hX.kn, hX.tru, ?_, mk_xr_cg (fun k hk => mj_up_ne _ _ _ (by omega)) hr, hX.kept, hX.img, hX.next, hX.rows, hX.image, hX.sights, hX.sh, hX.sb, hX.si⟩
  obtain ⟨n1, n2, n3, n4, n5, n6, n7, n8, n9⟩ := hn
  unfold mk_xl
  simp (disch := omega) only [mj_up_eq, mj_up_ne]
  exact ⟨n1, n2, n3, n4, n5, trivial, n7, fun t ht => by rw [mj_up_ne _ _ _ (by omega)]; exact n8 t ht, fun k hk => by rw [mj_up_ne _ _ _ (by omega)]; exact n9 k hk⟩
theorem mk_X.nk {t v : Nat} (hX : mk_X S A M) (ht : t < 6) : mk_X (mk_u S 65 (36 + t) v) A (mj_u M 21 t (nI v)) := by
  have hr := hX.ring
  have hn := hX.now
  unfold mk_X
  simp (disch := omega) only [nw_u9, mj_u_eq, mj_up_eq, mj_up_ne, nw_a9, nw_ae, mk_un1, mk_u_eq]
  refine ⟨hX.why, hX.ref, hX.size, hX.tape, hX.laws, hX.hold, hX.lens, hX.codes, hX.hs, hX.ts, hX.often, hX.known, hX.cur, hX.warm, hX.len, hX.kn, hX.tru, ?_, mk_xr_cg (fun k hk => mj_up_ne _ _ _ (by omega)) hr, hX.kept, hX.img, hX.next, hX.rows, hX.image, hX.sights, hX.sh, hX.sb, hX.si⟩
  obtain ⟨n1, n2, n3, n4, n5, n6, n7, n8, n9⟩ := hn
  unfold mk_xl
  simp (disch := omega) only [mj_up_ne]
  refine ⟨n1, n2, n3, n4, n5, n6, n7, fun j hj => ?_, fun k hk => by rw [mj_up_ne _ _ _ (by omega)]; exact n9 k hk⟩
  by_cases c : j = t
  · rw [c, mj_up_eq, mj_up_eq]
  · rw [mj_up_ne _ _ _ c, mj_up_ne _ _ _ (by omega)]; exact n8 j hj
theorem mk_X.nh {k v : Nat} (hX : mk_X S A M) (hk : k < 36) : mk_X (mk_u S 65 k v) A (mj_u M 22 k (nI v)) := by
  have hr := hX.ring
  have hn := hX.now
  unfold mk_X
  simp (disch := omega) only [nw_u9, mj_u_eq, mj_up_eq, mj_up_ne, nw_a9, nw_ae, mk_un1, mk_u_eq]
  refine ⟨hX.why, hX.ref, hX.size, hX.tape, hX.laws, hX.hold, hX.lens, hX.codes, hX.hs, hX.ts, hX.often, hX.known, hX.cur, hX.warm, hX.len, hX.kn, hX.tru, ?_, mk_xr_cg (fun k hk => mj_up_ne _ _ _ (by omega)) hr, hX.kept, hX.img, hX.next, hX.rows, hX.image, hX.sights, hX.sh, hX.sb, hX.si⟩
  obtain ⟨n1, n2, n3, n4, n5, n6, n7, n8, n9⟩ := hn
  unfold mk_xl
  simp (disch := omega) only [mj_up_ne]
  refine ⟨n1, n2, n3, n4, n5, n6, n7, n8, fun j hj => ?_⟩
  by_cases c : j = k
  · rw [c, mj_up_eq, mj_up_eq]
  · rw [mj_up_ne _ _ _ c, mj_up_ne _ _ _ c]; exact n9 j hj
/-- another row of how it stands, as good -/
theorem mk_W.now' (hw : mk_W S A) {S' : mk_S} (h : ∀ c, c ≠ 65 → S' c = S c) (hn : mk_wn (S 48 25) (S 48 26) (S' 65)) (hL : S' 65 229 = S 65 229) : mk_W S' A := by
  unfold mk_W
  simp (disch := omega) only [h, hL]
  exact ⟨hw.h6, hw.t6, hw.ht, hw.size, hw.byte, hw.laws, hw.hold, hw.why, hw.kept, hw.sights, hw.img, hw.next, hw.often, hw.house, hw.tale, hn, hw.rows, hw.kh, hw.image, hw.seen, hw.wl, hw.chain⟩
theorem mk_R0.now' (hr : mk_R0 S) {S' : mk_S} (h : ∀ c, c ≠ 65 → S' c = S c) (hL : S' 65 229 = S 65 229) : mk_R0 S' := by
  intro j hj
  rw [h 48 (by omega)] at hj
  rw [hL, h _ (by omega)]
  exact hr j hj
theorem mk_wn.u42 {H T : Nat} {sn : Nat → Nat} {v : Nat} (h : mk_wn H T sn) (t6 : T ≤ 6) (hv : v < H) (hv6 : v < 6) : mk_wn H T (va_up sn 42 v) := by
  obtain ⟨h1, h2, h3, h4, h5, h6, h7, h8, h9, h10, h11, h12, h13⟩ := h
  unfold mk_wn
  simp (disch := omega) only [mj_up_eq, mj_up_ne]
  exact ⟨fun _ => hv, hv6, h3, h4, h5, h6, h7, h8, h9, fun t ht => by rw [mj_up_ne _ _ _ (by omega)]; exact h10 t ht, fun k hk => by rw [mj_up_ne _ _ _ (by omega)]; exact h11 k hk, fun a b ha hb hc => by rw [mj_up_ne _ _ _ (by omega)]; exact h12 a b ha hb hc, h13⟩
theorem mk_wn.u43 {H T : Nat} {sn : Nat → Nat} {v : Nat} (h : mk_wn H T sn) (t6 : T ≤ 6) (hv : v < 2 ^ T) : mk_wn H T (va_up sn 43 v) := by
  obtain ⟨h1, h2, h3, h4, h5, h6, h7, h8, h9, h10, h11, h12, h13⟩ := h
  unfold mk_wn
  simp (disch := omega) only [mj_up_eq, mj_up_ne]
  exact ⟨h1, h2, hv, h4, h5, h6, h7, h8, h9, fun t ht => by rw [mj_up_ne _ _ _ (by omega)]; exact h10 t ht, fun k hk => by rw [mj_up_ne _ _ _ (by omega)]; exact h11 k hk, fun a b ha hb hc => by rw [mj_up_ne _ _ _ (by omega)]; exact h12 a b ha hb hc, h13⟩
theorem mk_wn.u44 {H T : Nat} {sn : Nat → Nat} {v : Nat} (h : mk_wn H T sn) (t6 : T ≤ 6) (hv : v ≤ 999) : mk_wn H T (va_up sn 44 v) := by
  obtain ⟨h1, h2, h3, h4, h5, h6, h7, h8, h9, h10, h11, h12, h13⟩ := h
  unfold mk_wn
  simp (disch := omega) only [mj_up_eq, mj_up_ne]
  exact ⟨h1, h2, h3, hv, h5, h6, h7, h8, h9, fun t ht => by rw [mj_up_ne _ _ _ (by omega)]; exact h10 t ht, fun k hk => by rw [mj_up_ne _ _ _ (by omega)]; exact h11 k hk, fun a b ha hb hc => by rw [mj_up_ne _ _ _ (by omega)]; exact h12 a b ha hb hc, h13⟩
theorem mk_wn.u45 {H T : Nat} {sn : Nat → Nat} {v : Nat} (h : mk_wn H T sn) (t6 : T ≤ 6) (hv : v ≤ 9999) (hv2 : sn 45 ≤ v) : mk_wn H T (va_up sn 45 v) := by
  obtain ⟨h1, h2, h3, h4, h5, h6, h7, h8, h9, h10, h11, h12, h13⟩ := h
  unfold mk_wn
  simp (disch := omega) only [mj_up_eq, mj_up_ne]
  exact ⟨h1, h2, h3, h4, hv, h6, h7, by omega, h9, fun t ht => by rw [mj_up_ne _ _ _ (by omega)]; exact h10 t ht, fun k hk => by rw [mj_up_ne _ _ _ (by omega)]; exact h11 k hk, fun a b ha hb hc => by rw [mj_up_ne _ _ _ (by omega)]; exact h12 a b ha hb hc, h13⟩
theorem mk_wn.u46 {H T : Nat} {sn : Nat → Nat} {v : Nat} (h : mk_wn H T sn) (t6 : T ≤ 6) : mk_wn H T (va_up sn 46 v) := by
  obtain ⟨h1, h2, h3, h4, h5, h6, h7, h8, h9, h10, h11, h12, h13⟩ := h
  unfold mk_wn
  simp (disch := omega) only [mj_up_eq, mj_up_ne]
  exact ⟨h1, h2, h3, h4, h5, Nat.le_refl _, h7, h8, h9, fun t ht => by rw [mj_up_ne _ _ _ (by omega)]; exact h10 t ht, fun k hk => by rw [mj_up_ne _ _ _ (by omega)]; exact h11 k hk, fun a b ha hb hc => by rw [mj_up_ne _ _ _ (by omega)]; exact h12 a b ha hb hc, h13⟩
theorem mk_wn.u47 {H T : Nat} {sn : Nat → Nat} {v : Nat} (h : mk_wn H T sn) (t6 : T ≤ 6) : mk_wn H T (va_up sn 47 v) := by
  obtain ⟨h1, h2, h3, h4, h5, h6, h7, h8, h9, h10, h11, h12, h13⟩ := h
  unfold mk_wn
  simp (disch := omega) only [mj_up_eq, mj_up_ne]
  exact ⟨h1, h2, h3, h4, h5, h6, Nat.le_refl _, h8, h9, fun t ht => by rw [mj_up_ne _ _ _ (by omega)]; exact h10 t ht, fun k hk => by rw [mj_up_ne _ _ _ (by omega)]; exact h11 k hk, fun a b ha hb hc => by rw [mj_up_ne _ _ _ (by omega)]; exact h12 a b ha hb hc, h13⟩
theorem mk_wn.uk {H T : Nat} {sn : Nat → Nat} {v : Nat} (h : mk_wn H T sn) {j : Nat} (t6 : T ≤ 6) (hj : j < 6) (hv : v ≤ 9) : mk_wn H T (va_up sn (36 + j) v) := by
  obtain ⟨h1, h2, h3, h4, h5, h6, h7, h8, h9, h10, h11, h12, h13⟩ := h
  unfold mk_wn
  simp (disch := omega) only [mj_up_eq, mj_up_ne]
  exact ⟨h1, h2, h3, h4, h5, h6, h7, h8, h9, fun t ht => by
    by_cases e : t = j
    · rw [e, mj_up_eq]; exact hv
    · rw [mj_up_ne _ _ _ (by omega)]; exact h10 t ht, fun k hk => by rw [mj_up_ne _ _ _ (by omega)]; exact h11 k hk, fun a b ha hb hc => by rw [mj_up_ne _ _ _ (by omega)]; exact h12 a b ha hb hc, h13⟩
theorem mk_wn.uh {H T : Nat} {sn : Nat → Nat} {v : Nat} (h : mk_wn H T sn) {x y : Nat} (t6 : T ≤ 6) (h6 : H ≤ 6) (hx : x < H) (hy : y < T) (hv : v ≤ 99) : mk_wn H T (va_up sn (x * 6 + y) v) := by
  obtain ⟨h1, h2, h3, h4, h5, h6, h7, h8, h9, h10, h11, h12, h13⟩ := h
  unfold mk_wn
  simp (disch := omega) only [mj_up_eq, mj_up_ne]
  exact ⟨h1, h2, h3, h4, h5, h6, h7, h8, h9, h10, fun k hk => by
    by_cases e : k = x * 6 + y
    · rw [e, mj_up_eq]; exact hv
    · rw [mj_up_ne _ _ _ e]; exact h11 k hk, fun a b ha hb hc => by rw [mj_up_ne _ _ _ (by omega)]; exact h12 a b ha hb hc, h13⟩
theorem mk_Wref (hw : mk_W S A) {k v : Nat} : mk_W (mk_u S 66 k v) A := by
  unfold mk_W
  simp (disch := omega) only [mk_un1]
  exact hw
theorem mk_Xref (hX : mk_X S A M) {k : Nat} (hk : k < 5) : ∃ M', F_W_refuse (nI k) M = some (-1, M') ∧ mk_X (mk_u S 66 k (S 66 k + 1)) A M' ∧ mk_fx M M' := by
  unfold F_W_refuse
  simp only [mj_lt]
  rw [nw_ck hk (by omega), nw_ck hk (by omega), nI_clamp (by omega), hX.ref k hk, nI_1]
  refine ⟨_, rfl, ?_, mk_fx.rf.u (by omega)⟩
  unfold mk_X
  simp (disch := omega) only [nw_u9, mj_u_eq, mj_up_eq, mj_up_ne, nw_a9, nw_ae, mk_un1, mk_u_eq]
  refine ⟨hX.why, fun j hj => ?_, hX.size, hX.tape, hX.laws, hX.hold, hX.lens, hX.codes, hX.hs, hX.ts, hX.often, hX.known, hX.cur, hX.warm, hX.len, hX.kn, hX.tru, hX.now, hX.ring, hX.kept, hX.img, hX.next, hX.rows, hX.image, hX.sights, hX.sh, hX.sb, hX.si⟩
  by_cases c : j = k
  · rw [c, mj_up_eq, mj_up_eq]
  · rw [mj_up_ne _ _ _ c, mj_up_ne _ _ _ c]; exact hX.ref j hj
theorem mk_Mref (hM : mk_M S A M) {k : Nat} (hk : k < 5) : ∃ M', F_M_isRefused (nI k) M = some (1, M') ∧ mk_M (mk_u S 66 k (S 66 k + 1)) A M' ∧ mk_fm M M' := by
  unfold F_M_isRefused F_M_isRefused_b15
  simp only [mj_lt]
  rw [nl_m1]
  simp (disch := omega) only [nw_eqm]
  rw [if_neg (by trivial), nw_ck hk (by omega), nw_ck hk (by omega), nI_clamp (by omega), hM.ref k hk, nI_1]
  refine ⟨_, rfl, ?_, mk_fm.rf.u (by omega)⟩
  unfold mk_M
  simp (disch := omega) only [nw_u9, mj_u_eq, mj_up_eq, mj_up_ne, nw_a9, nw_ae, mk_un1, mk_u_eq]
  refine ⟨hM.size, hM.laws, hM.hs, hM.ts, hM.hold, hM.why, hM.kept, hM.sights, hM.img, hM.tape, hM.lens, fun n hn => mk_cl_cg (nw_u9 _ (by omega)) (nw_u9 _ (by omega)) (nw_u9 _ (by omega)) (nw_u9 _ (by omega)) (nw_u9 _ (by omega)) _ _ _ (hM.codes n hn), hM.often, hM.house, hM.tale, hM.now, fun j hj => ?_, hM.rows, hM.sh, hM.sb, hM.si, hM.image⟩
  by_cases c : j = k
  · rw [c, mj_up_eq, mj_up_eq]
  · rw [mj_up_ne _ _ _ c, mj_up_ne _ _ _ c]; exact hM.ref j hj
theorem mk_Mref1 : F_M_isRefused (-1) M = some (0, M) := by
  unfold F_M_isRefused F_M_isRefused_b15
  rw [if_pos rfl, if_pos rfl]
/-- a refused act on both sides -/
theorem mk_refuse (hw : mk_W S A) (hX : mk_X S A M) (hM : mk_M S A M) {f g : mj_M → Option (Int32 × mj_M)} (k : Nat) (hk : k < 5) (hf : ∀ M, mk_X S A M → ∃ M0, mk_X S A M0 ∧ mk_fx M M0 ∧ f M = (F_W_refuse (nI k) M0).bind (fun q => some (q.1, q.2))) (hg : ∀ M, mk_M S A M → ∃ M0, mk_M S A M0 ∧ mk_fm M M0 ∧ ∀ M1, F_M_isRefused (nI k) M0 = some (1, M1) → g M = some (-1, M1)) : ∃ r M1 M2, f M = some (r, M1) ∧ g M1 = some (r, M2) ∧ mk_I M2 := by
  refine mk_fin (S' := mk_u S 66 k (S 66 k + 1)) (A' := A) (r := -1) (mk_Wref hw) hX hM (fun M hX => ?_) (fun M hM => ?_)
  · obtain ⟨M0, x0, f0, e0⟩ := hf M hX
    obtain ⟨M1, e1, x1, f1⟩ := mk_Xref x0 hk
    exact ⟨M1, by rw [e0, e1]; rfl, x1, f0.tr f1⟩
  · obtain ⟨M0, x0, f0, e0⟩ := hg M hM
    obtain ⟨M1, e1, x1, f1⟩ := mk_Mref x0 hk
    exact ⟨M1, e0 M1 e1, x1, f0.tr f1⟩
theorem r_tells {x : Int32} {k : Nat} {M1 : mj_M} (e : F_M_isRefused (nI k) M = some (1, M1)) : F_M_tells_b38 N x (nI k) M = some (-1, M1) := by
  unfold F_M_tells_b38
  rw [e]
  rfl
theorem r_goes {x : Int32} {k : Nat} {M1 : mj_M} (e : F_M_isRefused (nI k) M = some (1, M1)) : F_M_goes_b64 N x (nI k) M = some (-1, M1) := by
  unfold F_M_goes_b64
  rw [e]
  rfl
theorem r_learns {x : Int32} {k : Nat} {M1 : mj_M} (e : F_M_isRefused (nI k) M = some (1, M1)) : F_M_learns_b68 N x (nI k) M = some (-1, M1) := by
  unfold F_M_learns_b68
  rw [e]
  rfl
theorem r_ties {x : Int32} {k : Nat} {M1 : mj_M} (e : F_M_isRefused (nI k) M = some (1, M1)) : F_M_ties_b55 N x (nI k) M = some (-1, M1) := by
  unfold F_M_ties_b55
  rw [e]
  rfl
theorem r_rest {x : Int32} {k : Nat} {M1 : mj_M} (e : F_M_isRefused (nI k) M = some (1, M1)) : F_M_rest_b69 N x (nI k) M = some (-1, M1) := by
  unfold F_M_rest_b69
  rw [e]
  rfl
theorem r_give {x : Int32} {k : Nat} {M1 : mj_M} (e : F_M_isRefused (nI k) M = some (1, M1)) : F_M_give_b42 N x (nI k) M = some (-1, M1) := by
  unfold F_M_give_b42
  rw [e]
  rfl
end Acts
