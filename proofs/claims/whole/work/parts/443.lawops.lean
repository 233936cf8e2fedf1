/-! ===== the pure side: a law asked for its fault, a law taken ===== -/
section LawOps
variable {N : Nat} {S : mk_S} {A : mk_L} {M M' : mj_M}
theorem mk_tk_cg {f g f' g' : Nat → Int32} : ∀ (l : List mk_T) (p : Nat), (∀ k, p ≤ k → k < p + l.length → f' k = f k ∧ g' k = g k) → mk_tk f g p l → mk_tk f' g' p l
  | [], _, _, _ => trivial
  | q :: l, p, e, h => by
    have e0 := e p (Nat.le_refl _) (by rw [List.length_cons]; omega)
    exact ⟨e0.1.trans h.1, e0.2.trans h.2.1, mk_tk_cg l (p + 1) (fun k h1 h2 => e k (by omega) (by rw [List.length_cons]; omega)) h.2.2⟩
theorem mk_cl_rg {b : Nat} : ∀ (C : List mk_C) (c p : Nat), (∀ k, c ≤ k → k < c + C.length → M' 54 k = M 54 k ∧ M' 55 k = M 55 k ∧ M' 56 k = M 56 k) → (∀ k, b + p ≤ k → k < b + p + mk_nt C → M' 50 k = M 50 k ∧ M' 51 k = M 51 k) → mk_cl M b C c p → mk_cl M' b C c p
  | [], _, _, _, _, _ => trivial
  | q :: C, c, p, e, f, h => by
    obtain ⟨h1, h2, h3, h4, h5, h6⟩ := h
    have e0 := e c (Nat.le_refl _) (by rw [List.length_cons]; omega)
    have en : mk_nt (q :: C) = q.1.length + q.2.length + mk_nt C := rfl
    rw [en] at f
    exact ⟨e0.1.trans h1, e0.2.1.trans h2, e0.2.2.trans h3, mk_tk_cg _ _ (fun k k1 k2 => f k (by omega) (by omega)) h4, mk_tk_cg _ _ (fun k k1 k2 => f k (by omega) (by omega)) h5, mk_cl_rg C (c + 1) _ (fun k k1 k2 => e k (by omega) (by rw [List.length_cons]; omega)) (fun k k1 k2 => f k (by omega) (by omega)) h6⟩
theorem mk_X.lb (h : mk_X S A M) (k : mk_lxb M M') : mk_X S A M' := by
  have f : ∀ c, c ≠ 2 → c ≠ 6 → c ≠ 7 → M' c = M c := k.2
  have h21 := k.1
  unfold mk_X at h ⊢
  rw [h21, f 0 (by omega) (by omega) (by omega), f 1 (by omega) (by omega) (by omega), f 3 (by omega) (by omega) (by omega), f 8 (by omega) (by omega) (by omega), f 10 (by omega) (by omega) (by omega), f 11 (by omega) (by omega) (by omega), f 13 (by omega) (by omega) (by omega), f 14 (by omega) (by omega) (by omega), f 15 (by omega) (by omega) (by omega), f 16 (by omega) (by omega) (by omega), f 17 (by omega) (by omega) (by omega), f 18 (by omega) (by omega) (by omega), f 19 (by omega) (by omega) (by omega), f 20 (by omega) (by omega) (by omega), f 21 (by omega) (by omega) (by omega), f 22 (by omega) (by omega) (by omega), f 23 (by omega) (by omega) (by omega), f 24 (by omega) (by omega) (by omega), f 25 (by omega) (by omega) (by omega), f 26 (by omega) (by omega) (by omega), f 27 (by omega) (by omega) (by omega), f 29 (by omega) (by omega) (by omega), f 30 (by omega) (by omega) (by omega), f 31 (by omega) (by omega) (by omega), f 32 (by omega) (by omega) (by omega)]
  exact h
theorem mk_lxb.fx (k : mk_lxb M M') : mk_fx M M' := fun c hc => k.2 c (by omega) (by omega) (by omega)
theorem mk_lmc.fm {r : Nat} (k : mk_lmc r M M') : mk_fm M M' := fun c hc => funext fun j => k c j (by omega)
theorem mk_clc {r n : Nat} {C : List mk_C} (hC : mk_wl C) (k : mk_lmc r M M') (hn : n < r) (h : mk_cl M (520 * n) C (140 * n) 0) : mk_cl M' (520 * n) C (140 * n) 0 := by
  have h1 := mk_en_len C hC.1
  have h2 := hC.2
  exact mk_cl_rg C _ _ (fun j j1 j2 => ⟨k _ _ (by omega), k _ _ (by omega), k _ _ (by omega)⟩) (fun j j1 j2 => ⟨k _ _ (by omega), k _ _ (by omega)⟩) h
theorem mk_M.lc {r : Nat} (h : mk_M S A M) (hw : mk_W S A) (k : mk_lmc r M M') (hr : S 48 13 ≤ r) : mk_M S A M' := by
  have f : ∀ c, 57 ≤ c ∨ c = 49 → M' c = M c := fun c hc => funext fun j => k c j (by omega)
  have g : ∀ j, ¬ (3 ≤ j ∧ j ≤ 5 ∨ j = 14) → M' 48 j = M 48 j := fun j hj => k 48 j (by omega)
  unfold mk_M
  rw [g 2 (by omega), g 13 (by omega), g 25 (by omega), g 26 (by omega), g 29 (by omega), g 30 (by omega), g 32 (by omega), g 40 (by omega), g 44 (by omega), f 49 (by omega), f 62 (by omega), f 63 (by omega), f 64 (by omega), f 65 (by omega), f 66 (by omega), f 67 (by omega), f 69 (by omega), f 70 (by omega), f 71 (by omega), f 72 (by omega)]
  exact ⟨h.size, h.laws, h.hs, h.ts, h.hold, h.why, h.kept, h.sights, h.img, h.tape, fun n hn => by rw [k 53 n (by omega)]; exact h.lens n hn, fun n hn => mk_clc (hw.wl n hn) k (by omega) (h.codes n hn), h.often, h.house, h.tale, h.now, h.ref, h.rows, h.sh, h.sb, h.si, h.image⟩
theorem mk_Xtp (hX : mk_X S A M) (hw : mk_W S A) : mk_xt1 (S 49) (S 48 2) M := ⟨⟨hw.size, hw.byte⟩, hX.size, hX.tape⟩
theorem mk_Mtp (hM : mk_M S A M) (hw : mk_W S A) : mk_mt1 (S 49) (S 48 2) M := ⟨⟨hw.size, hw.byte⟩, hM.size, hM.tape⟩
theorem mk_fault1 (hN : 1000 ≤ N) (hw : mk_W S A) (hX : mk_X S A M) (hM : mk_M S A M) : ∃ r M1 M2, F_W_fault N (1 : Int32) M = some (r, M1) ∧ F_M_fault N (1 : Int32) M1 = some (r, M2) ∧ mk_I M2 := by
  have e10 : ¬ (1 : Int32) = 0 := by decide +kernel
  have h4 := hw.laws
  rcases mk_Alaw (r := 4) hN (mk_Xtp hX hw).1 (by omega) with ⟨D, a1, a2, a3⟩ | ⟨w, a1, a2, a3⟩
  · refine mk_fin (S' := S) (A' := A) (r := -nI 1) hw hX hM (fun M hX => ?_) (fun M hM => ?_)
    · obtain ⟨M1, p', x1, x2⟩ := a2 M (mk_Xtp hX hw)
      have xb := x2.2.2.2.2.2.2.2
      refine ⟨M1, ?_, hX.lb xb, xb.fx⟩
      rw [F_W_fault, if_neg e10, if_pos rfl, x1, mk_bs]
    · obtain ⟨M1, p', x1, x2⟩ := a3 M (mk_Mtp hM hw)
      have xb := x2.2.2.2.2
      refine ⟨M1, ?_, hM.lc hw xb (by omega), xb.fm⟩
      rw [F_M_fault, if_neg e10, if_pos rfl, nl_4, x1, mk_bs]
  · refine mk_fin (S' := S) (A' := A) (r := nI w) hw hX hM (fun M hX => ?_) (fun M hM => ?_)
    · obtain ⟨M1, x1, x2⟩ := a2 M (mk_Xtp hX hw)
      have xb := x2.2.2.2
      refine ⟨M1, ?_, hX.lb xb, xb.fx⟩
      rw [F_W_fault, if_neg e10, if_pos rfl, x1, mk_bs]
    · obtain ⟨M1, x1, x2⟩ := a3 M (mk_Mtp hM hw)
      have xb := x2.2.2.2.2
      refine ⟨M1, ?_, hM.lc hw xb (by omega), xb.fm⟩
      rw [F_M_fault, if_neg e10, if_pos rfl, nl_4, x1, mk_bs]
theorem mk_at_cpy {f g : Nat → Int32} {b n : Nat} : ∀ (l : List Nat) (p : Nat), p + l.length ≤ n → mk_at f p l → mk_at (va_cpy f g 0 b n) (b + p) l
  | [], _, _, _ => trivial
  | a :: l, p, h, k => by
    rw [List.length_cons] at h
    refine ⟨?_, by rw [Nat.add_assoc]; exact mk_at_cpy l (p + 1) (by omega) k.2⟩
    unfold va_cpy
    rw [if_pos (by omega), show 0 + (b + p - b) = p by omega]
    exact k.1
theorem mk_at_old {f g : Nat → Int32} {b n : Nat} : ∀ (l : List Nat) (p : Nat), p + l.length ≤ b → mk_at g p l → mk_at (va_cpy f g 0 b n) p l
  | [], _, _, _ => trivial
  | a :: l, p, h, k => by
    rw [List.length_cons] at h
    refine ⟨?_, mk_at_old l (p + 1) (by omega) k.2⟩
    unfold va_cpy
    rw [if_neg (by omega)]
    exact k.1
def mk_S13 (S : mk_S) : mk_S := mk_u (mk_u S 48 13 (S 48 13 + 1)) 48 2 0
def mk_A13 (S : mk_S) (A : mk_L) (D : List mk_C) : mk_L := fun n => if n = S 48 13 then D else A n
theorem mk_A13e (D : List mk_C) : mk_A13 S A D (S 48 13) = D := if_pos rfl
theorem mk_A13n (D : List mk_C) {n : Nat} (h : n ≠ S 48 13) : mk_A13 S A D n = A n := if_neg h
theorem mk_text1 (hN : 1000 ≤ N) (hw : mk_W S A) (hX : mk_X S A M) (hM : mk_M S A M) : ∃ r M1 M2, F_W_text N (1 : Int32) M = some (r, M1) ∧ F_M_text N (1 : Int32) M1 = some (r, M2) ∧ mk_I M2 := by
  have e10 : ¬ (1 : Int32) = 0 := by decide +kernel
  have h4 := hw.laws
  have hz := hw.size
  by_cases c4 : 4 ≤ S 48 13
  · refine mk_fin (r := -1) hw hX hM (mk_QX.same fun M hX => ?_) (mk_QM.same fun M hM => ?_)
    · rw [F_W_text, if_neg e10, F_W_text_b27, if_pos rfl, hX.laws, nl_4, if_pos (nI_le (by omega) (by omega))]
    · rw [F_M_text, if_neg e10, F_M_text_b22, if_pos rfl, hM.laws, nl_4, if_pos (nI_le (by omega) (by omega))]
  rcases mk_Alaw (r := S 48 13) hN (mk_Xtp hX hw).1 (by omega) with ⟨D, a1, a2, a3⟩ | ⟨w, a1, a2, a3⟩
  · have hlen : (mk_en D).length ≤ 240 := by
      obtain ⟨M1, p', x1, x2⟩ := a2 M (mk_Xtp hX hw)
      have l1 := x2.2.2.2.2.1
      have l2 := x2.2.1
      omega
    have hn0 : ∀ n, n < S 48 13 + 1 → n ≠ S 48 13 → n < S 48 13 := fun n h1 h2 => by omega
    have hold := hw.hold
    refine mk_fin (S' := mk_S13 S) (A' := mk_A13 S A D) (r := nI (S 48 13)) ?_ hX hM (fun M hX => ?_) (fun M hM => ?_)
    · unfold mk_S13 mk_W
      simp (disch := omega) only [mk_un1, mk_u_eq, mj_up_eq, mj_up_ne]
      exact ⟨hw.h6, hw.t6, hw.ht, Nat.zero_le _, fun k hk => absurd hk (Nat.not_lt_zero _), by omega, by omega, hw.why, hw.kept, hw.sights, hw.img, hw.next, hw.often, hw.house, hw.tale, hw.now, hw.rows, hw.kh, hw.image, hw.seen, fun n hn => by
        by_cases e : n = S 48 13
        · rw [e, mk_A13e]; exact ⟨a1, hlen⟩
        · rw [mk_A13n D e]; exact hw.wl n (hn0 n hn e), hw.chain⟩
    · obtain ⟨M1, p', x1, x2⟩ := a2 M (mk_Xtp hX hw)
      have x61 := x2.2.2.2.2.2.1
      have x7 := x2.2.2.2.2.2.2.1
      have xb := x2.2.2.2.2.2.2.2
      have X1 := hX.lb xb
      refine ⟨mj_u (mj_u (mj_u (mj_a M1 10 (va_cpy (M1 7) (M1 10) 0 (S 48 13 * 240) (mk_en D).length)) 11 (S 48 13) (nI (mk_en D).length)) 8 0 (nI (S 48 13 + 1))) 2 1 (nI 0), ?_, ?_, ?_⟩
      · rw [F_W_text, if_neg e10, F_W_text_b27, if_pos rfl, hX.laws, nl_4, if_neg (nI_ge (by omega) (by omega)), x1, mk_bs, if_pos (show -nI 1 = (-1 : Int32) from rfl)]
        show (F_Laws_add_c7 (M1 6 1) M1).bind _ = _
        rw [x61, F_Laws_add_c7, X1.laws, nl_4, if_neg (nI_ge (by omega) (by omega)), nl_240, if_neg (by rw [nw_lt (by omega) (by omega)]; omega), if_neg (by rw [nw_lt (by omega) (by omega)]; omega), pk_mul, nl_0, nw_ac (by omega) (by omega) (by omega) (by omega)]
        simp only [mj_lt]
        rw [nI_clamp (by omega), nI_clamp (by omega), nI_clamp (by omega), nw_a9 _ (by omega), X1.laws, nw_ck (by omega) (by omega), nI_clamp (by omega), nw_u9 _ (by omega), nw_a9 _ (by omega), X1.laws, nI_1, mk_bs, nw_u9 _ (by omega), mj_u_eq, mj_up_eq, nl_1, pk_sub (by omega), Nat.add_sub_cancel]
      · unfold mk_S13 mk_X
        simp (disch := omega) only [nw_u9, mj_u_eq, mj_up_eq, mj_up_ne, nw_a9, nw_ae, mk_un1, mk_u_eq]
        exact ⟨X1.why, X1.ref, trivial, fun k hk => absurd hk (Nat.not_lt_zero _), trivial, X1.hold, fun n hn => by
          by_cases e : n = S 48 13
          · rw [e, mk_A13e, mj_up_eq]
          · rw [mk_A13n D e, mj_up_ne _ _ _ e]; exact X1.lens n (hn0 n hn e), fun n hn => by
          by_cases e : n = S 48 13
          · rw [e, mk_A13e, show 240 * S 48 13 = S 48 13 * 240 from Nat.mul_comm _ _]
            have t := mk_at_cpy (g := M1 10) (b := S 48 13 * 240) (n := (mk_en D).length) (mk_en D) 0 (by omega) x7
            rw [Nat.add_zero] at t
            exact t
          · have hn' := hn0 n hn e
            rw [mk_A13n D e]
            have l2 := (hw.wl n hn').2
            exact mk_at_old _ _ (by omega) (X1.codes n hn'), X1.hs, X1.ts, X1.often, X1.known, X1.cur, X1.warm, X1.len, X1.kn, X1.tru, X1.now, X1.ring, X1.kept, X1.img, X1.next, X1.rows, X1.image, X1.sights, X1.sh, X1.sb, X1.si⟩
      · exact ((((xb.fx.a (by omega)).u (by omega)).u (by omega)).u (by omega))
    · obtain ⟨M1, p', x1, x2⟩ := a3 M (mk_Mtp hM hw)
      have xb := x2.2.2.2.2
      have x53 := x2.2.1
      have xz := x2.2.2.2.1
      have xt := x2.1.2.2.2.2.2.2.2.2.2.2.1
      have M1' := hM.lc hw xb (Nat.le_refl _)
      refine ⟨mj_u (mj_u M1 48 2 (nI 0)) 48 13 (nI (S 48 13 + 1)), ?_, ?_, (xb.fm.u (by omega)).u (by omega)⟩
      · rw [F_M_text, if_neg e10, F_M_text_b22, if_pos rfl, hM.laws, nl_4, if_neg (nI_ge (by omega) (by omega)), x1, mk_bs, if_pos (show -nI 1 = (-1 : Int32) from rfl)]
        simp only [mj_lt]
        have e13 : mj_u M1 48 2 (0 : Int32) 48 13 = nI (S 48 13) := by rw [mj_u_eq, mj_up_ne _ _ _ (by omega)]; exact M1'.laws
        rw [e13, nI_1, mj_u_eq, mj_up_eq, nl_1, pk_sub (by omega), Nat.add_sub_cancel, nl_0]
      · unfold mk_S13 mk_M
        simp (disch := omega) only [nw_u9, mj_u_eq, mj_up_eq, mj_up_ne, nw_a9, nw_ae, mk_un1, mk_u_eq]
        have fc : ∀ C b c p, mk_cl M1 b C c p → mk_cl (mj_u (mj_u M1 48 2 (nI 0)) 48 13 (nI (S 48 13 + 1))) b C c p := fun C b c p h => mk_cl_cg (by rw [nw_u9 _ (by omega), nw_u9 _ (by omega)]) (by rw [nw_u9 _ (by omega), nw_u9 _ (by omega)]) (by rw [nw_u9 _ (by omega), nw_u9 _ (by omega)]) (by rw [nw_u9 _ (by omega), nw_u9 _ (by omega)]) (by rw [nw_u9 _ (by omega), nw_u9 _ (by omega)]) C c p h
        exact ⟨trivial, trivial, M1'.hs, M1'.ts, M1'.hold, M1'.why, M1'.kept, M1'.sights, M1'.img, fun k hk => absurd hk (Nat.not_lt_zero _), fun n hn => by
          by_cases e : n = S 48 13
          · rw [e, mk_A13e]; exact x53
          · rw [mk_A13n D e]; exact M1'.lens n (hn0 n hn e), fun n hn => by
          by_cases e : n = S 48 13
          · rw [e, mk_A13e]
            exact fc _ _ _ _ (mk_cz_cl D _ _ xz xt)
          · rw [mk_A13n D e]
            exact fc _ _ _ _ (M1'.codes n (hn0 n hn e)), M1'.often, M1'.house, M1'.tale, M1'.now, M1'.ref, M1'.rows, M1'.sh, M1'.sb, M1'.si, M1'.image⟩
  · refine mk_fin (S' := S) (A' := A) (r := -1) hw hX hM (fun M hX => ?_) (fun M hM => ?_)
    · obtain ⟨M1, x1, x2⟩ := a2 M (mk_Xtp hX hw)
      have xb := x2.2.2.2
      refine ⟨M1, ?_, hX.lb xb, xb.fx⟩
      rw [F_W_text, if_neg e10, F_W_text_b27, if_pos rfl, hX.laws, nl_4, if_neg (nI_ge (by omega) (by omega)), x1, mk_bs, if_neg (mk_nm1 (by omega))]
    · obtain ⟨M1, x1, x2⟩ := a3 M (mk_Mtp hM hw)
      have xb := x2.2.2.2.2
      refine ⟨M1, ?_, hM.lc hw xb (Nat.le_refl _), xb.fm⟩
      rw [F_M_text, if_neg e10, F_M_text_b22, if_pos rfl, hM.laws, nl_4, if_neg (nI_ge (by omega) (by omega)), x1, mk_bs, if_neg (mk_nm1 (by omega))]
end LawOps
